/** Promises 16 to 19: PLAYS by a row of choices, what is told of a HAND behind one, THE RING and the choices. */
public final class PlayTest {
    private static final String STAR =
            "if me = 0 then any mark 0 into a; any mark 0 into b; tell a; tell b; else meet 0 mark 0 word me * 10; end;";

    private static void hands(SendHall x, int what, int... want) {
        for (int hand = 0; hand < want.length; hand++) {
            int h = hand;
            Due.is("17: of(" + h + ", " + what + ")", want[h], () -> x.of(h, what));
        }
    }

    private static void choices(SendHall x, int... want) {
        Due.is("19: chose(-1)", want.length, () -> x.chose(-1));
        for (int i = 0; i < want.length; i++) {
            int k = i;
            Due.is("19: chose(" + k + ")", want[k], () -> x.chose(k));
        }
        Due.is("19: no more", Due.ELEMENT, () -> x.chose(want.length));
        Due.is("19: chose(-2)", Due.ELEMENT, () -> x.chose(-2));
    }

    private static void ring(SendHall x, int... want) {
        Due.is("18: ring(-1)", want.length, () -> x.ring(-1));
        for (int i = 0; i < want.length; i++) {
            int k = i;
            Due.is("18: ring(" + k + ")", want[k], () -> x.ring(k));
        }
        Due.is("18: no more", Due.ELEMENT, () -> x.ring(want.length));
        Due.is("18: ring(-2)", Due.ELEMENT, () -> x.ring(-2));
    }

    private static void promise16() {
        SendHall x = Due.hall(STAR, 4, 0);
        Due.is("16: without choices LOCKED: one isn't heard", 2, () -> x.play(0, 0x33));
        choices(x, 1, 2);
        Due.is("16: one told choice", 2, () -> x.play(1, 0x13));
        choices(x, 3, 1);
        hands(x, 3, 30 * 31 + 10);
        Due.is("16: two", 2, () -> x.play(2, 0xF23));
        choices(x, 3, 2);
        Due.is("16: a choice that can't be", 2, () -> x.play(2, 0x33));
        choices(x, 3);
        Due.is("17: HAND 0 is at the second 'any'", 2, () -> x.of(0, 2));
        Due.is("16: a choice that is itself", 2, () -> x.play(1, 0));
        choices(x);
        for (int many : new int[] {-1, 17, Integer.MIN_VALUE, Integer.MAX_VALUE}) {
            Due.is("16: many " + many, Due.ARGUMENT, () -> x.play(many, 0));
        }
        Due.is("16: no HAND", Due.ARGUMENT, () -> x.play(1, 4));
        Due.is("16: no HAND, the last of 16", Due.ARGUMENT, () -> x.play(16, 0x4000000000000000L));
        Due.is("16: no HAND, the highest bits", Due.ARGUMENT, () -> x.play(16, -1L));
        Due.is("16: 15 are told", 2, () -> x.play(15, 0xF000000000000000L));
        choices(x);
        Due.is("16: the latest PLAY stays", Due.ARGUMENT, () -> x.play(17, 0));
        choices(x);
        SendHall three = Due.hall(STAR, 3, 0);
        Due.is("16: WHOLE", 0, () -> three.play(0, 0));
        SendHall stops = Due.hall("if me = 0 then wait 1 mark 0 into a; else wait 9 mark 0 into a; end;", 2, 0);
        Due.is("16: STOPPED", 1, () -> stops.play(0, 0));
    }

    private static void promise16Choices() {
        SendHall two = Due.hall("if me < 2 then any mark 0 into a; tell a; else begin 0 mark 0 word me; begin 1 mark 0 word me;"
                + "end;", 4, 0);
        Due.is("16: whichever 'any' is first", 0, () -> two.play(2, 0x23));
        choices(two, 3, 2);
        hands(two, 3, 3, 2);
        two.play(0, 0);
        choices(two, 2, 2);
        SendHall sends = Due.hall("if me = 0 then any mark 0 into a; tell a; else send 0 mark 0 word me; end;", 3, 1);
        Due.is("16: what only lies needs no choice", 0, () -> sends.play(1, 2));
        choices(sends, 2);
        hands(sends, 3, 2, 0, 0);
        String many = "if me=0then " + "any mark 0into a;".repeat(18) + "else " + "begin 0mark 0word 1;".repeat(18) + "end;";
        SendHall all = Due.hall(many, 3, 0);
        Due.is("16: 16 choices", 0, () -> all.play(16, 0x2222222222222222L));
        Due.is("19: behind them the least", 18, () -> all.chose(-1));
        Due.is("19: the last told", 2, () -> all.chose(15));
        Due.is("19: the first behind", 1, () -> all.chose(16));
        Due.is("19: the last", 1, () -> all.chose(17));
    }

    private static void promise17() {
        SendHall x = Due.hall("set c 4; if me = 0 then tell 5; set d 9; any mark 1 into a; wait 1 mark 2 into b; "
                + "else begin 0 mark 1 word 8; done; wait 2 mark 0 into a; end;", 2, 0);
        Due.is("17: no PLAY yet", Due.ELEMENT, () -> x.of(0, 0));
        Due.is("16: STOPPED", 1, () -> x.play(0, 0));
        hands(x, 2, 5, 8);
        hands(x, 3, 5, 0);
        hands(x, 4, 1, 0);
        hands(x, 5, 2, 0);
        hands(x, 6, 0, 1);
        hands(x, 8, 8, 0);
        hands(x, 9, 0, 0);
        hands(x, 10, 4, 4);
        hands(x, 11, 9, 0);
        for (int what : new int[] {-1, 7, 12, Integer.MAX_VALUE, Integer.MIN_VALUE}) {
            Due.is("17: what " + what, Due.ELEMENT, () -> x.of(0, what));
        }
        Due.is("17: no HAND", Due.ELEMENT, () -> x.of(2, 0));
        Due.is("17: no HAND", Due.ELEMENT, () -> x.of(-1, 0));
        x.world(2, 3, 9, 9);
        Due.is("17: the same n", 5, () -> x.of(0, 2));
        x.world(9, 3, 9, 9);
        Due.is("17: no n", 5, () -> x.of(0, 2));
        Due.text(x, "foo");
        Due.is("17: a FAULT", 5, () -> x.of(0, 2));
        x.world(3, 3, 9, 9);
        Due.is("17: another n", Due.ELEMENT, () -> x.of(0, 2));
        Due.is("18: another n", Due.ELEMENT, () -> x.ring(-1));
        Due.is("19: another n", Due.ELEMENT, () -> x.chose(-1));
        x.world(2, 3, 9, 9);
        Due.is("17: gone back from", Due.ELEMENT, () -> x.of(0, 2));
        Due.is("18: gone back from", Due.ELEMENT, () -> x.ring(-1));
        Due.is("19: gone back from", Due.ELEMENT, () -> x.chose(-1));
        x.play(0, 0);
        Due.is("17: a PLAY", 5, () -> x.of(0, 2));
        Due.text(x, "all;");
        Due.is("17: another TEXT", Due.ELEMENT, () -> x.of(0, 2));
        Due.is("18: another TEXT", Due.ELEMENT, () -> x.ring(-1));
        Due.is("19: another TEXT", Due.ELEMENT, () -> x.chose(-1));
    }

    private static SendHall clocks(String text, int n, int room, int near, int wide) {
        SendHall x = Due.hall(text, n, room, near, wide);
        x.play(0, 0);
        return x;
    }

    private static void promise17Clocks() {
        SendHall done = clocks("if me = 0 then begin 1 mark 0 word 5; done; else wait 0 mark 0 into a; end;", 2, 0, 3, 2);
        hands(done, 0, 8, 7);
        hands(done, 1, 6, 6);
        SendHall meet = clocks("if me = 0 then begin 1 mark 1 word 0; meet 1 mark 0 word 9; else wait 0 mark 0 into a; end;",
                2, 0, 3, 2);
        hands(meet, 0, 7, 7);
        hands(meet, 1, 0, 1);
        SendHall late = clocks("if me = 0 then meet 2 mark 0 word 9; end; if me = 2 then begin 1 mark 1 word 0; "
                + "any mark 0 into a; end;", 3, 3, 3, 10);
        hands(late, 0, 25, 0, 25);
        hands(late, 1, 1, 0, 0);
        SendHall all = clocks("if me = 1 then begin 0 mark 1 word 0; begin 0 mark 1 word 0; end; all;", 3, 0, 9, 9);
        hands(all, 0, 3, 3, 3);
        hands(all, 1, 2, 0, 2);
        SendHall sum = clocks("if me = 1 then begin 0 mark 1 word 0; begin 0 mark 1 word 0; sum 30 into d; else "
                + "sum me + 1 into b; end;", 3, 0, 9, 9);
        hands(sum, 0, 3, 3, 3);
        hands(sum, 1, 2, 0, 2);
        hands(sum, 9, 34, 0, 34);
        hands(sum, 11, 0, 34, 0);
        SendHall early = clocks("if me = 0 then send 1 mark 0 word 5; else begin 0 mark 7 word 0; begin 0 mark 7 word 0; "
                + "begin 0 mark 7 word 0; wait 0 mark 0 into a; end;", 2, 1, 1, 0);
        hands(early, 0, 1, 4);
        hands(early, 1, 0, 0);
        SendHall stops = clocks("if me = 0 then meet 1 mark 0 word 5 long 2; else wait 0 mark 0 into a most 1; end;", 2, 0, 4, 0);
        hands(stops, 0, 5, 5);
        SendHall none = clocks("if me = 0 then done; end;", 2, 0, 4, 0);
        hands(none, 0, 1, 0);
        SendHall twice = clocks("if me = 0 then begin 1 mark 0 word 5; begin 2 mark 0 word 5; done; else "
                + "wait 0 mark 0 into a; end;", 3, 0, 0, 7);
        hands(twice, 0, 18, 9, 17);
        hands(twice, 1, 15, 8, 16);
    }

    private static void promise17Waits() {
        SendHall any = Due.hall("if me = 0 then any mark 0 into a; end; if me = 2 then wait 5 mark 0 into a; end; "
                + "if me = 3 then wait 1 mark 0 into a; end;", 4, 0);
        any.play(0, 0);
        hands(any, 5, 12, 0, 0, 2);
        SendHall together = Due.hall("if me = 0 then all; end; if me = 1 then sum 1 into a; end; if me = 2 then all; end;", 4, 0);
        together.play(0, 0);
        hands(together, 5, 10, 13, 10, 0);
        SendHall done = Due.hall("if me = 1 then begin 3 mark 0 word 0; begin 0 mark 0 word 0; send 2 mark 0 word 0; done; end;",
                4, 1);
        done.play(0, 0);
        hands(done, 5, 0, 9, 0, 0);
        SendHall sends = Due.hall("if me = 0 then send 2 mark 0 word 0; end; if me = 1 then meet 2 mark 0 word 0; end;", 3, 0);
        sends.play(0, 0);
        hands(sends, 5, 4, 4, 0);
    }

    private static void promise18() {
        SendHall x = Due.hall("wait 1 + (me = 1) mark 0 into a;", 3, 0);
        Due.is("18: no PLAY yet", Due.ELEMENT, () -> x.ring(-1));
        x.play(0, 0);
        ring(x, 1, 2);
        SendHall back = Due.hall("if 0 < me then wait n - me mark 0 into a; end;", 4, 0);
        back.play(0, 0);
        Due.is("16: HAND 2 STOPPED", 1, () -> back.of(2, 6));
        ring(back, 1, 3);
        SendHall ended = Due.hall("if me = 0 then wait 1 mark 0 into a; end;", 2, 0);
        ended.play(0, 0);
        ring(ended);
        SendHall stopped = Due.hall("if me = 0 then wait 1 mark 0 into a; else wait 9 mark 0 into a; end;", 2, 0);
        stopped.play(0, 0);
        ring(stopped);
        SendHall whole = Due.hall("all;", 2, 0);
        whole.play(0, 0);
        ring(whole);
        SendHall star = Due.hall("if me = 2 then any mark 0 into a; else if me = 1 then wait 2 mark 0 into a; end; end;", 3, 0);
        star.play(0, 0);
        ring(star, 1, 2);
        SendHall eight = Due.hall("wait me + 1 - n * (me + 1 = n) mark 0 into a;", 8, 0);
        eight.play(0, 0);
        ring(eight, 0, 1, 2, 3, 4, 5, 6, 7);
        SendHall alone = Due.hall("if me = 1 then any mark 0 into a; end;", 2, 0);
        alone.play(0, 0);
        ring(alone);
    }

    private static void promise19() {
        SendHall x = Due.hall("if me = 0 then any mark 0 into a most 1; tell a; else begin 0 mark 0 word 4 long 2; end;", 3, 0);
        Due.is("19: no PLAY yet", Due.ELEMENT, () -> x.chose(-1));
        Due.is("16: STOPPED", 1, () -> x.play(1, 2));
        choices(x, 2);
        hands(x, 4, 2, 0, 0);
        Due.is("16: a 'wait' makes no choice", 0,
                () -> Due.hall("if me = 0 then wait 1 mark 0 into a; else begin 0 mark 0 word 1; end;", 2, 0).play(0, 0));
        SendHall wait = Due.hall("if me = 0 then wait 1 mark 0 into a; else begin 0 mark 0 word 1; end;", 2, 0);
        wait.play(0, 0);
        choices(wait);
    }

    public static void main(String[] args) {
        promise16();
        promise16Choices();
        promise17();
        promise17Clocks();
        promise17Waits();
        promise18();
        promise19();
        Due.end("PlayTest");
    }
}
