/** Promises 8 to 15 and 20: STATES, ENDINGS, COULD, NEEDS, CUT DOWN, and the least n that locks. */
public final class EndingsTest {
    private static final String STAR = "if me = 0 then any mark 0 into a; %s else begin 0 mark 0 word me; %s end;";

    /** 8 * 5 * 5 = 200 STATES with three HANDS. */
    private static final String FULL = "if me = 0 then " + "begin 1 mark 0 word 0;".repeat(7) + "else "
            + "begin 0 mark 0 word 0;".repeat(4) + "end;";

    private static void spent(SendHall x) {
        Due.is("8: SPENT", -1, x::reached);
        Due.is("9: SPENT", -2, () -> x.endings(-1));
        Due.is("9: SPENT", -2, () -> x.endings(2));
        Due.is("9: SPENT, another kind", Due.ELEMENT, () -> x.endings(3));
        Due.is("10: SPENT", Due.ELEMENT, () -> x.ending(0, 0));
        Due.holds("11: SPENT", false, x.differs());
        Due.is("13: SPENT", -1, x::needs);
        Due.is("14: SPENT", -1, x::cut);
    }

    private static void promise8() {
        SendHall one = Due.hall("begin 1 - me mark 0 word 1;", 2, 0);
        Due.is("8: each HAND by itself", 4, one::reached);
        SendHall order = Due.hall("if me = 1 then done; else begin 1 mark 0 word me; end;", 3, 0);
        Due.is("8: the order of what comes from two HANDS is no part of a STATE", 8, order::reached);
        SendHall full = Due.hall(FULL, 3, 0);
        Due.is("8: 200", 200, full::reached);
        Due.is("9: 200", 1, () -> full.endings(-1));
        spent(Due.hall(FULL + "all;", 3, 0));
        spent(Due.hall("begin (me = 0) mark 0 word 0;".repeat(6), 8, 0));
        SendHall meets = Due.hall("if me = 0 then meet 1 mark 3 word 9; else wait 0 mark 3 into b; tell b; end;", 2, 3);
        Due.is("8: handed over at once", 2, meets::reached);
        SendHall lies = Due.hall("if me = 0 then send 1 mark 3 word 9; else wait 0 mark 3 into b; tell b; end;", 2, 1);
        Due.is("8: it lies", 3, lies::reached);
        SendHall marks = Due.hall("if me = 0 then meet 1 mark 3 word 9; else wait 0 mark 4 into b; tell b; end;", 2, 3);
        Due.is("8: another mark", 1, marks::reached);
        SendHall away = Due.hall("if me = 0 then meet 1 mark 3 word 9; else wait 2 mark 3 into b; tell b; end;", 3, 3);
        Due.is("8: it waits for another", 1, away::reached);
        SendHall world = Due.hall("send 1 - me mark 0 word 1; wait 1 - me mark 0 into a;", 2, 0);
        Due.is("8: no ROOM", 1, world::reached);
        world.world(2, 1, 0, 0);
        Due.is("8: ROOM for each way", 7, world::reached);
    }

    private static void promise8Room() {
        String text = "if me = 0 then begin 1 mark 0 word 1; send 1 mark 1 word 2; send 1 mark 2 word 3; else "
                + "wait 0 mark 2 into a; tell a; end;";
        SendHall x = Due.hall(text, 2, 1);
        Due.is("8: what was begun takes no ROOM; the second is handed over", 4, x::reached);
        Due.is("10: two lie", 2, () -> x.ending(0, 1));
        Due.is("10: WHOLE", 0, () -> x.ending(0, 0));
        Due.is("10: TOLD", 3, () -> x.ending(0, 5));
        String behind = "if me = 0 then begin 1 mark 2 word 1; send 1 mark 2 word 2; else wait 0 mark 2 into a; tell a; "
                + "wait 0 mark 2 into a; tell a; end;";
        SendHall y = Due.hall(behind, 2, 0);
        Due.is("8: none is handed over while one of that mark lies", 4, y::reached);
        Due.is("10: in their order", 33, () -> y.ending(0, 5));
    }

    private static void promise9() {
        String stops = String.format(STAR, "if a = 1 then wait 0 mark 0 into b; end; if a = 2 then wait 1 mark 9 into b; end;", "");
        SendHall x = Due.hall(stops, 4, 0);
        Due.is("9: all", 3, () -> x.endings(-1));
        Due.is("9: WHOLE", 1, () -> x.endings(0));
        Due.is("9: STOPPED", 1, () -> x.endings(1));
        Due.is("9: LOCKED", 1, () -> x.endings(2));
        Due.is("9: kind 3", Due.ELEMENT, () -> x.endings(3));
        Due.is("9: kind -2", Due.ELEMENT, () -> x.endings(-2));
        Due.is("10: WHOLE comes first", 0, () -> x.ending(0, 0));
        Due.is("10: STOPPED", 1, () -> x.ending(1, 0));
        Due.is("10: LOCKED", 2, () -> x.ending(2, 0));
        SendHall alike = Due.hall(String.format(STAR, "", ""), 4, 0);
        Due.is("9: ENDINGS that tell alike are one", 1, () -> alike.endings(-1));
        for (String other : new String[] {"0 - 1", "n", "me"}) {
            for (String step : new String[] {"send %s mark 0 word 1;", "meet %s mark 0 word 1;", "begin %s mark 0 word 1;",
                "wait %s mark 0 into a;"}) {
                SendHall y = Due.hall(String.format(step, other), 2, 3);
                Due.is("9: STOPPED at " + String.format(step, other), 1, () -> y.endings(1));
                Due.is("8: at once", 1, y::reached);
            }
        }
        SendHall both = Due.hall("if me = 0 then wait 9 mark 0 into a; else wait 0 mark 0 into a; end;", 2, 0);
        Due.is("9: STOPPED goes ahead of LOCKED", 1, () -> both.endings(1));
    }

    private static void longer(String step, int most, int kind) {
        String text = "if me = 0 then " + step + " 1 mark 0 word 7 long 5; tell 1; else wait 0 mark 0 into c"
                + (most < 0 ? "" : " most " + most) + "; tell c; end;";
        SendHall x = Due.hall(text, 2, 0);
        Due.is("9: " + text, kind, () -> x.ending(0, 0));
        Due.is("10: it was taken all the same", 0, () -> x.ending(0, 1));
        Due.is("10: the other went on", 1, () -> x.ending(0, 4));
        Due.is("10: the one that took", kind == 0 ? 7 : 0, () -> x.ending(0, 5));
        Due.is("10: haven't ENDED", kind == 0 ? 0 : 2, () -> x.ending(0, 2));
        x.play(0, 0);
        Due.is("17: VAR", 7, () -> x.of(1, 10));
    }

    private static void longWords() {
        for (String step : new String[] {"send", "meet", "begin"}) {
            longer(step, 4, 1);
            longer(step, 5, 0);
            longer(step, -1, 0);
        }
        SendHall again = Due.hall("if me = 0 then meet 1 mark 0 word 7 long 2; meet 1 mark 0 word 8; else "
                + "wait 0 mark 0 into a most 1; tell a; end;", 2, 0);
        Due.is("9: a HAND that STOPPED is handed nothing", 3, () -> again.ending(0, 2));
        again.play(0, 0);
        Due.is("17: its VAR", 7, () -> again.of(1, 8));
    }

    private static void promise10() {
        SendHall told = Due.hall(String.format(STAR, "tell from - 2;", ""), 3, 0);
        Due.is("10: TOLD, the least first", -1, () -> told.ending(0, 4));
        Due.is("10: TOLD", 0, () -> told.ending(1, 4));
        Due.is("10: WORDS that lie", 1, () -> told.ending(0, 1));
        for (int what : new int[] {-1, 3, 7, 8, Integer.MAX_VALUE, Integer.MIN_VALUE}) {
            Due.is("10: what " + what, Due.ELEMENT, () -> told.ending(0, what));
        }
        Due.is("10: the last HAND", 0, () -> told.ending(0, 6));
        Due.is("10: i -1", Due.ELEMENT, () -> told.ending(-1, 0));
        Due.is("10: i 2", Due.ELEMENT, () -> told.ending(2, 0));
        SendHall words = Due.hall(String.format(STAR, "if a = 1 then begin 1 mark 5 word 0; end;", ""), 3, 0);
        Due.is("10: by WORDS", 1, () -> words.ending(0, 1));
        Due.is("10: by WORDS", 2, () -> words.ending(1, 1));
        Due.is("10: by WORDS, no more", Due.ELEMENT, () -> words.ending(2, 1));
        SendHall bits = Due.hall(String.format(STAR, "begin 3 - a mark 7 word 0;", "wait 0 mark 7 into b;"), 3, 0);
        Due.is("10: by bits", 2, () -> bits.ending(0, 2));
        Due.is("10: by bits", 4, () -> bits.ending(1, 2));
        SendHall second = Due.hall("if me = 1 then any mark 0 into a; tell 0 - a; else begin 1 mark 0 word me; tell 5; end;", 3, 0);
        Due.is("10: by TOLD of HAND 1 where HAND 0's is alike", -2, () -> second.ending(0, 5));
        Due.is("10: HAND 0", 5, () -> second.ending(1, 4));
        Due.is("10: 31 times", 31 * 4 + 6, () -> Due.hall("tell 4; tell 6;", 2, 0).ending(0, 5));
    }

    private static void promise11() {
        Due.holds("11: TOLD differs", true, Due.hall(String.format(STAR, "tell a;", ""), 3, 0).differs());
        Due.holds("11: one HAND beside", false, Due.hall(String.format(STAR, "tell a;", ""), 2, 0).differs());
        Due.holds("11: only WORDS differ", false,
                Due.hall(String.format(STAR, "if a = 1 then begin 1 mark 5 word 0; end;", ""), 3, 0).differs());
        Due.holds("11: the other is LOCKED", false,
                Due.hall(String.format(STAR, "tell a; if a = 1 then wait 1 mark 9 into b; end;", ""), 3, 0).differs());
        Due.holds("11: both are LOCKED", false, Due.hall(String.format(STAR, "tell a; wait 1 mark 9 into b;", ""), 3, 0).differs());
    }

    private static void promise12() {
        String text = "if me = 0 then any mark 0 into a; wait 2 mark 1 into b; any mark 0 into b; else "
                + "if me = 2 then begin 0 mark 1 word 0; end; begin 0 mark 0 word me; end;";
        SendHall x = Due.hall(text, 3, 0);
        Due.is("12: both", 6, () -> x.could(0, 1));
        Due.is("12: both", 6, () -> x.could(0, 3));
        Due.is("12: none of another HAND", 0, () -> x.could(1, 1));
        Due.is("12: no 'any'", Due.ELEMENT, () -> x.could(0, 2));
        Due.is("12: no STEP", Due.ELEMENT, () -> x.could(0, 7));
        Due.is("12: no STEP", Due.ELEMENT, () -> x.could(0, -1));
        Due.is("12: no HAND", Due.ELEMENT, () -> x.could(3, 1));
        Due.is("12: no HAND", Due.ELEMENT, () -> x.could(-1, 1));
        SendHall first = Due.hall("if me = 0 then any mark 0 into a; any mark 0 into b; else if me = 2 then "
                + "wait 1 mark 5 into d; end; meet 0 mark 0 word me; if me = 1 then begin 2 mark 5 word 0; end; end;", 3, 0);
        Due.is("12: HAND 2 can only come behind", 2, () -> first.could(0, 1));
        Due.is("12: handed over", 4, () -> first.could(0, 2));
        SendHall spent = Due.hall("any mark 0 into a;" + FULL + "all;", 3, 0);
        Due.is("12: LOCKED at once", 0, () -> spent.could(0, 0));
        SendHall much = Due.hall(FULL + "begin 1 - (me = 1) mark 0 word 0; any mark 9 into a; all;", 8, 0);
        Due.is("12: SPENT", -1, () -> much.could(0, 13));
        Due.is("12: SPENT, no 'any'", Due.ELEMENT, () -> much.could(0, 12));
    }

    private static void promise13() {
        for (int words = 1; words <= 4; words++) {
            String text = "send 1 - me mark 0 word 1;".repeat(words) + "wait 1 - me mark 0 into a;".repeat(words);
            SendHall x = Due.hall(text, 2, 3, 1, 1);
            Due.is("13: each sends " + words, words < 4 ? words : -1, x::needs);
            Due.is("13: ROOM is as it was", 3, () -> x.count(3));
            Due.is("9: the ENDINGS too", words < 4 ? 0 : 1, () -> x.endings(2));
        }
        Due.is("13: a wait for nothing", -1, () -> Due.hall("wait 1 - me mark 0 into a;", 2, 0).needs());
        Due.is("13: STOPPED is not LOCKED", 0, () -> Due.hall("wait me mark 0 into a;", 2, 0).needs());
        // By no ROOM all wait at once; by ROOM 1 each HAND sends on its way: more than 200 STATES.
        String ring = "send me + 1 - n * (me + 1 = n) mark 0 word 1; wait me - 1 + n * (me = 0) mark 0 into a;";
        Due.is("13: SPENT by one that is asked of", -1, () -> Due.hall(ring, 8, 0).needs());
        Due.is("13: with fewer HANDS", 1, () -> Due.hall(ring, 3, 0).needs());
        Due.is("13: not SPENT by one that isn't asked of", 0, () -> {
            String one = "if me = 0 then wait 1 mark 0 into a;" + "wait 1 mark 0 into a;".repeat(5)
                    + "else if me = 1 then " + "send 0 mark 0 word 1;".repeat(6) + "end; end;";
            return Due.hall(one, 2, 3).needs();
        });
    }

    private static void lefts(SendHall x, String want) {
        for (int step = 0; step < want.length(); step++) {
            int s = step;
            Due.is("15: left(" + s + ")", want.charAt(s) - '0', () -> x.left(s) ? 1 : 0);
        }
    }

    private static void promise14And15() {
        SendHall x = Due.hall("tell 1; wait 1 - me mark 0 into a; tell a; wait 1 - me mark 0 into b;", 2, 0);
        Due.is("15: nothing is kept", Due.ELEMENT, () -> x.left(0) ? 1 : 0);
        Due.is("14: the last wait alone locks", 1, x::cut);
        lefts(x, "0001");
        Due.is("15: no such STEP", Due.ELEMENT, () -> x.left(4) ? 1 : 0);
        Due.is("15: no such STEP", Due.ELEMENT, () -> x.left(-1) ? 1 : 0);
        x.world(3, 1, 0, 0);
        Due.is("14: now one STOPPED", -1, x::cut);
        lefts(x, "0001");
        Due.is("3: a FAULT", 1, () -> Due.text(x, "foo;"));
        lefts(x, "0001");
        Due.is("3: the same TEXT once more", 0,
                () -> Due.text(x, "tell 1; wait 1 - me mark 0 into a; tell a; wait 1 - me mark 0 into b;"));
        Due.is("15: another TEXT came", Due.ELEMENT, () -> x.left(0) ? 1 : 0);
        x.world(2, 0, 0, 0);
        Due.is("14: once more", 1, x::cut);
        lefts(x, "0001");
        Due.is("9: nothing else changed", 1, () -> x.endings(2));
        SendHall fork = Due.hall("if me = 0 then set a 1; wait a mark 0 into b; else if 1 then all; end; end;", 2, 0);
        Due.is("14: an 'if' doesn't count", 2, fork::cut);
        lefts(fork, "11011");
        SendHall whole = Due.hall("tell 1;", 2, 0);
        Due.is("14: none is LOCKED", -1, whole::cut);
        SendHall spent = Due.hall("wait 1 - me + (1 < me) * me mark 9 into a; " + FULL + "all;", 3, 0);
        Due.is("14: SPENT counts as not LOCKED", 1, spent::cut);
        Due.holds("15: so the wait stays", true, spent.left(0));
        Due.holds("15: the rest goes", false, spent.left(2));
        SendHall pair = Due.hall("send 1 - me mark 0 word 1; send 1 - me mark 1 word 1;", 2, 0);
        Due.is("14: each left out ahead counts", 1, pair::cut);
        lefts(pair, "01");
    }

    private static void promise20() {
        String ring = "send me + 1 - n * (me + 1 = n) mark 0 word me; wait me - 1 + n * (me = 0) mark 0 into a;";
        SendHall x = Due.hall(ring, 4, 2, 5, 5);
        Due.is("20: by no ROOM", 2, () -> x.least(0));
        Due.is("20: by ROOM 1", -1, () -> x.least(1));
        Due.is("20: by ROOM 3", -1, () -> x.least(3));
        Due.is("20: no such ROOM", Due.ARGUMENT, () -> x.least(4));
        Due.is("20: no such ROOM", Due.ARGUMENT, () -> x.least(-1));
        Due.is("20: n is as it was", 4, () -> x.count(2));
        for (int n = 2; n <= 9; n++) {
            int want = n <= 8 ? n : -1;
            SendHall y = Due.hall("if n = " + n + " then wait 1 - (me = 1) mark 0 into a; end;", 2, 0);
            Due.is("20: from " + n + " on", want, () -> y.least(0));
        }
        Due.is("20: STOPPED is not LOCKED", -1, () -> Due.hall("wait n mark 0 into a;", 2, 0).least(0));
        SendHall any = Due.hall("if 0 then any mark 0 into a; end;", 2, 0);
        Due.is("20: there is an 'any'", -2, () -> any.least(0));
        Due.is("20: no such ROOM though", Due.ARGUMENT, () -> any.least(4));
        SendHall played = Due.hall("set a 5; wait 1 - me mark 0 into b;", 3, 0);
        Due.is("16: STOPPED", 1, () -> played.play(0, 0));
        Due.is("20: two lock", 2, () -> played.least(0));
        Due.is("17: the latest PLAY is as it was", 1, () -> played.of(2, 6));
    }

    public static void main(String[] args) {
        promise8();
        promise8Room();
        promise9();
        longWords();
        promise10();
        promise11();
        promise12();
        promise13();
        promise14And15();
        promise20();
        Due.end("EndingsTest");
    }
}
