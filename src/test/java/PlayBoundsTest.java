/** The bounds that the document names for a PLAY, CLOCKS, WAITS FOR and THE RING: promises 16 to 19. */
public final class PlayBoundsTest {
    private static final String STAR =
            "if me = 0 then any mark 0 into a; any mark 0 into b; tell a; tell b; else meet 0 mark 0 word me; end;";
    private static final String[] OUTWARD = {"send", "meet", "begin"};

    private static void hands(SendHall x, int what, int... want) {
        for (int hand = 0; hand < want.length; hand++) {
            int h = hand;
            Due.is("17: of(" + h + ", " + what + ")", want[h], () -> x.of(h, what));
        }
    }

    private static void choices(SendHall x, int... want) {
        Due.is("19: chose(-1)", want.length, () -> x.chose(-1));
        for (int i = 0; i < want.length; i++) {
            int k = i;
            Due.is("19: chose(" + k + ")", want[k], () -> x.chose(k));
        }
        for (int i : new int[] {-2, want.length, 320, Integer.MIN_VALUE, Integer.MAX_VALUE}) {
            Due.is("19: chose(" + i + ")", Due.ELEMENT, () -> x.chose(i));
        }
    }

    private static void ring(SendHall x, int... want) {
        Due.is("18: ring(-1)", want.length, () -> x.ring(-1));
        for (int i = 0; i < want.length; i++) {
            int k = i;
            Due.is("18: ring(" + k + ")", want[k], () -> x.ring(k));
        }
        for (int i : new int[] {-2, want.length, 8, Integer.MIN_VALUE, Integer.MAX_VALUE}) {
            Due.is("18: ring(" + i + ")", Due.ELEMENT, () -> x.ring(i));
        }
    }

    private static SendHall played(int kind, String text, int n, int room, int near, int wide) {
        SendHall x = Due.hall(text, n, room, near, wide);
        Due.is("16: play(0, 0) of " + text, kind, () -> x.play(0, 0));
        return x;
    }

    private static SendHall played(int kind, String text, int n, int room) {
        return played(kind, text, n, room, 0, 0);
    }

    // ---- promise 16

    private static void many() {
        SendHall x = Due.hall(STAR, 3, 0);
        for (int many : new int[] {-1, -16, 17, 18, 64, Integer.MIN_VALUE, Integer.MAX_VALUE}) {
            Due.is("16: many " + many, Due.ARGUMENT, () -> x.play(many, 0));
            Due.is("17: it was no PLAY", Due.ELEMENT, () -> x.of(0, 0));
            Due.is("18: it was no PLAY", Due.ELEMENT, () -> x.ring(-1));
            Due.is("19: it was no PLAY", Due.ELEMENT, () -> x.chose(-1));
        }
        Due.is("16: 0 choices", 0, () -> x.play(0, -1L));
        choices(x, 1, 2);
        Due.is("16: 16 choices", 0, () -> x.play(16, 0x1111111111111112L));
        choices(x, 2, 1);
        String before = Due.told(x);
        Due.is("16: 17 choices", Due.ARGUMENT, () -> x.play(17, 0));
        Due.same("16: play()", before, Due.told(x));
        Due.is("16: -1 choices", Due.ARGUMENT, () -> x.play(-1, 0));
        Due.same("16: play()", before, Due.told(x));
    }

    private static void choicesThatAreHands() {
        for (int n = 2; n <= 8; n++) {
            SendHall x = Due.hall("all;", n, 0);
            for (int i = 0; i < 16; i++) {
                long last = (long) (n - 1) << 4 * i;
                long none = (long) n << 4 * i;
                long most = 15L << 4 * i;
                int place = i;
                Due.is("16: choice " + i + " is the last HAND", 0, () -> x.play(16, last));
                Due.is("16: choice " + i + " is no HAND", Due.ARGUMENT, () -> x.play(16, none));
                Due.is("16: choice " + i + " is 15", Due.ARGUMENT, () -> x.play(16, most));
                Due.is("16: the last of " + (i + 1), Due.ARGUMENT, () -> x.play(place + 1, none));
                Due.is("16: behind the last of " + i, 0, () -> x.play(place, none));
            }
        }
        SendHall y = Due.hall(STAR, 3, 0);
        y.play(1, 2);
        String before = Due.told(y);
        Due.is("16: no HAND", Due.ARGUMENT, () -> y.play(2, 0x31));
        Due.same("16: play()", before, Due.told(y));
        y.world(4, 0, 0, 0);
        Due.is("16: now it is one", 2, () -> y.play(2, 0x31));
        choices(y, 1, 3);
    }

    private static void toldChoices() {
        SendHall x = Due.hall(STAR, 4, 0);
        for (int first = 0; first < 4; first++) {
            for (int second = 0; second < 4; second++) {
                int row = second << 4 | first;
                Due.is("16: " + first + ", " + second, 2, () -> x.play(2, row));
                if (first == 0) {
                    choices(x);
                    hands(x, 2, 1, 5, 5, 5);
                } else if (second == 0 || second == first) {
                    choices(x, first);
                    hands(x, 4, first);
                    hands(x, 2, 2);
                } else {
                    choices(x, first, second);
                    hands(x, 3, 31 * first + second);
                    hands(x, 2, -1);
                }
            }
            // Behind the row's end the least HAND that is still there.
            int one = first;
            Due.is("16: one", 2, () -> x.play(1, one));
            if (first > 0) {
                choices(x, first, first == 1 ? 2 : 1);
            }
        }
        Due.is("16: WHOLE", 0, () -> Due.hall(STAR, 3, 0).play(2, 0x12));
        SendHall stops = Due.hall("if me = 0 then any mark 0 into a; else if me = 1 then begin 0 mark 0 word 1; else "
                + "wait me mark 0 into a; end; end;", 3, 0);
        Due.is("16: as an ENDING that STOPPED, if a choice can't be", 1, () -> stops.play(1, 2));
        Due.is("16: STOPPED", 1, () -> stops.play(1, 1));
        choices(stops, 1);
    }

    /** A choice is for whichever 'any' is first, of whatever HAND; a 'wait' has none. */
    private static void whicheverIsFirst() {
        String text = "if me < 2 then any mark 0 into a; tell a; wait 2 mark 1 into b; else begin 0 mark %s word me; "
                + "begin 1 mark 0 word me; begin 0 mark 1 word 0; begin 1 mark 1 word 0; end;";
        SendHall x = Due.hall(String.format(text, "0"), 4, 0);
        Due.is("16: HAND 0 first", 0, () -> x.play(2, 0x23));
        choices(x, 3, 2);
        hands(x, 3, 3, 2, 0, 0);
        SendHall y = Due.hall(String.format(text, "5"), 4, 0);
        Due.is("16: HAND 1 alone", 2, () -> y.play(2, 0x23));
        choices(y, 3);
        hands(y, 3, 0, 3, 0, 0);
        SendHall wait = played(0, "if me = 0 then wait 1 mark 0 into a; wait 1 mark 0 into a; else begin 0 mark 0 word 1; "
                + "meet 0 mark 0 word 1; end;", 2, 0);
        choices(wait);
        Due.is("16: a choice that none needs", 0, () -> wait.play(1, 0));
        choices(wait);
    }

    private static void handedOverOrLaid() {
        for (String kind : OUTWARD) {
            String text = "if me = 0 then any mark 0 into a; tell a; else " + kind + " 0 mark 0 word me; end;";
            for (int room = 0; room <= 1; room++) {
                boolean lies = kind.equals("begin") || kind.equals("send") && room == 1;
                SendHall x = Due.hall(text, 3, room);
                Due.is("16: " + kind + " to HAND 2's choice", lies ? 0 : 2, () -> x.play(1, 2));
                choices(x, 2);
                hands(x, 3, 2, 0, 0);
                hands(x, 2, -1, lies ? -1 : 3, -1);
                hands(x, 5, 0, lies ? 0 : 1, 0);
                Due.is("16: " + kind + " to the HAND's own choice", 2, () -> x.play(1, 0));
                choices(x);
                hands(x, 2, 1, lies ? -1 : 3, lies ? -1 : 3);
                Due.is("16: " + kind + " without choices", lies ? 0 : 2, () -> x.play(0, 0));
                choices(x, 1);
            }
        }
        // Without choices the least HAND that has a MOVE is the first: HAND 0 hands over ahead of HAND 1.
        SendHall y = played(2, "if me = 2 then any mark 0 into a; else meet 2 mark 0 word me + 5; end;", 3, 0);
        choices(y, 0);
        hands(y, 8, 0, 0, 5);
        // All lie when HAND 2 comes to its 'any': it takes the least HAND's.
        SendHall z = played(0, "if me < 2 then begin 2 mark 0 word me + 5; else any mark 0 into a; end;", 3, 0);
        choices(z, 0);
        hands(z, 8, 0, 0, 5);
        // HAND 0 is quicker with all its MOVES than the others with one.
        SendHall quick = played(0, "if me = 0 then begin 1 mark 0 word 7; begin 1 mark 1 word 8; else any mark 1 into a; "
                + "any mark 0 into b; end;", 2, 0);
        hands(quick, 8, 0, 8);
        hands(quick, 9, 0, 7);
    }

    private static void sixteenChoices() {
        String text = "if me=0then " + "any mark 0into a;".repeat(18) + "else " + "begin 0mark 0word 1;".repeat(18) + "end;";
        SendHall x = Due.hall(text, 3, 0);
        for (int many = 0; many <= 16; many++) {
            int told = many;
            Due.is("16: " + many + " choices", 0, () -> x.play(told, 0x2222222222222222L));
            Due.is("19: all", 18, () -> x.chose(-1));
            for (int i = 0; i < 18; i++) {
                int k = i;
                Due.is("19: chose(" + k + ") with " + many + " told", k < many ? 2 : 1, () -> x.chose(k));
            }
        }
        long turns = 0;
        for (int i = 0; i < 16; i++) {
            turns |= (long) (1 + i % 2) << 4 * i;
        }
        long row = turns;
        Due.is("16: in turns, the first lowest", 0, () -> x.play(16, row));
        for (int i = 0; i < 16; i++) {
            int k = i;
            Due.is("19: in turns", 1 + k % 2, () -> x.chose(k));
        }
    }

    private static void mostMovesAndChoices() {
        SendHall moves = played(0, "done;".repeat(40), 8, 0);
        hands(moves, 0, 40, 40, 40, 40, 40, 40, 40, 40);
        String text = "if me<4then " + "any mark 1into a;".repeat(16) + "else " + "begin me-4mark 1word 1;".repeat(16) + "end;";
        SendHall x = played(0, text, 8, 0);
        Due.is("19: 64 choices", 64, () -> x.chose(-1));
        Due.is("19: the last of 64", 7, () -> x.chose(63));
        Due.is("19: behind the last of 64", Due.ELEMENT, () -> x.chose(64));
    }

    /** Each PLAY begins anew: CLOCKS, what WAITED, WORDS, THE RING and the choices of the one ahead count for nothing. */
    private static void playedAnew() {
        String text = "if me = 0 then any mark 0 into a; begin 1 mark 3 word 1; done; tell a; else begin 0 mark 0 word me; "
                + "if me = 1 then begin 2 mark 5 word 1; wait 0 mark 3 into b; end; end; if me < from then wait me + 1 mark 8 into c; end; "
                + "if me = 1 then wait 0 mark 8 into c; end;";
        SendHall fresh = Due.hall(text, 3, 1, 4, 5);
        SendHall x = Due.hall(text, 3, 1, 4, 5);
        Due.is("16: by HAND 2", fresh.play(1, 2), () -> x.play(1, 2));
        String two = Due.told(x);
        Due.same("16: a new object's PLAY", Due.told(fresh), two);
        x.play(1, 1);
        String one = Due.told(x);
        Due.holds("16: another PLAY", false, one.equals(two));
        for (int i = 0; i < 2; i++) {
            x.play(1, 2);
            Due.same("16: the PLAY ahead", two, Due.told(x));
            x.play(1, 1);
            Due.same("16: the PLAY ahead", one, Due.told(x));
        }
    }

    private static void clocksAnew() {
        String text = "if me = 0 then begin 1 mark 0 word 1; done; else wait 0 mark 0 into a; end;";
        SendHall x = Due.hall(text, 2, 0);
        for (int near = 99; near >= 0; near -= 33) {
            x.world(2, 0, near, 0);
            Due.is("16: NEAR " + near, 0, () -> x.play(0, 0));
            hands(x, 0, near + 3, near + 2);
            hands(x, 1, near + 1, near + 1);
        }
    }

    private static void ringsAnew() {
        SendHall x = played(2, STAR, 4, 0);
        ring(x);
        Due.is("16: a choice that can't be", 2, () -> x.play(1, 0));
        ring(x, 0, 1);
        Due.is("16: without", 2, () -> x.play(0, 0));
        ring(x);
        Due.is("3: another TEXT", 0, () -> Due.text(x, "if me < 3 then wait 2 - me + 2 * (me = 1) mark 0 into a; end;"));
        Due.is("16: LOCKED", 2, () -> x.play(0, 0));
        ring(x, 0, 2);
        x.world(8, 0, 0, 0);
        Due.is("16: LOCKED", 2, () -> x.play(0, 0));
        ring(x, 0, 2);
        Due.is("3: empty", 0, () -> x.text(0));
        Due.is("16: WHOLE", 0, () -> x.play(0, 0));
        ring(x);
    }

    private static void kinds() {
        played(0, "", 2, 0);
        played(0, "done;", 8, 0);
        played(1, "if me = 7 then wait 8 mark 0 into a; else all; end;", 8, 0);
        played(2, "if me < 7 then all; end;", 8, 0);
        SendHall x = Due.hall("wait 1 - me mark 0 into a;", 2, 0);
        Due.is("16: LOCKED", 2, () -> x.play(0, 0));
        x.world(3, 0, 0, 0);
        Due.is("16: STOPPED with a third", 1, () -> x.play(0, 0));
        Due.is("3: empty", 0, () -> x.text(0));
        Due.is("16: WHOLE", 0, () -> x.play(0, 0));
    }

    // ---- promise 17: CLOCKS

    private static void far() {
        int[][] worlds = {{0, 0}, {1, 0}, {0, 1}, {99, 99}, {98, 1}, {3, 99}};
        for (int[] w : worlds) {
            for (int sender = 0; sender < 8; sender++) {
                for (int taker = 0; taker < 8; taker++) {
                    if (sender != taker) {
                        far(sender, taker, w[0], w[1]);
                    }
                }
            }
        }
    }

    private static void far(int sender, int taker, int near, int wide) {
        int goes = near + Math.abs(sender - taker) * wide;
        for (String kind : OUTWARD) {
            String text = "if me = " + sender + " then " + kind + " " + taker + " mark 0 word 1; end; if me = " + taker
                    + " then wait " + sender + " mark 0 into a; end;";
            SendHall x = played(0, text, 8, 1, near, wide);
            boolean lies = !kind.equals("meet");
            Due.is("17: CLOCK behind " + kind + " from " + sender, lies ? 1 : 1 + goes, () -> x.of(sender, 0));
            Due.is("17: CLOCK of the one that took from " + sender, lies ? 2 + goes : 1 + goes, () -> x.of(taker, 0));
            Due.is("17: it WAITED", lies ? 1 + goes : 0, () -> x.of(taker, 1));
            Due.is("17: the other didn't", 0, () -> x.of(sender, 1));
            Due.is("17: 'from'", sender, () -> x.of(taker, 4));
        }
    }

    /** MOVES that cost a HAND 1 each, and change nothing else. */
    private static String spend(int moves) {
        return "done;".repeat(moves);
    }

    private static void there() {
        for (int early = 0; early <= 3; early++) {
            for (int late = 0; late <= 8; late++) {
                String text = "if me = 0 then " + spend(early) + "begin 1 mark 0 word 1; else " + spend(late) + "%s end;";
                int there = early + 1 + 3;
                int waited = Math.max(0, there - late);
                for (String taker : new String[] {"wait 0 mark 0 into a;", "any mark 0 into a;"}) {
                    SendHall x = played(0, String.format(text, taker), 2, 0, 2, 1);
                    hands(x, 0, early + 1, late + waited + 1);
                    hands(x, 1, 0, waited);
                }
            }
        }
    }

    private static void handedOver() {
        for (int sender = 0; sender <= 3; sender++) {
            for (int taker = 0; taker <= 3; taker++) {
                for (String kind : new String[] {"send 1", "meet 1"}) {
                    String text = "if me = 0 then " + spend(sender) + kind + " mark 0 word 1 long 2; else " + spend(taker) + "%s end;";
                    int later = Math.max(sender, taker);
                    for (String take : new String[] {"wait 0 mark 0 into a;", "any mark 0 into a;", "any mark 0 into a most 1;"}) {
                        SendHall x = played(take.endsWith("1;") ? 1 : 0, String.format(text, take), 2, 0, 5, 7);
                        hands(x, 0, later + 13, later + 13);
                        hands(x, 1, later - sender, later - taker);
                    }
                }
            }
        }
    }

    private static void together() {
        for (String step : new String[] {"all;", "sum me into a;"}) {
            for (int which = 0; which < 3; which++) {
                String text = "if me = " + which + " then " + spend(4) + " else if me = " + (which + 1) % 3 + " then " + spend(2)
                        + " end; end; " + step;
                SendHall x = played(0, text, 3, 0, 9, 9);
                hands(x, 0, 5, 5, 5);
                int latest = which;
                Due.is("17: the latest", 0, () -> x.of(latest, 1));
                Due.is("17: the next", 2, () -> x.of((latest + 1) % 3, 1));
                Due.is("17: the earliest", 4, () -> x.of((latest + 2) % 3, 1));
                SendHall twice = played(0, text + step, 3, 0, 9, 9);
                hands(twice, 0, 6, 6, 6);
            }
            SendHall first = played(0, step, 3, 0, 9, 9);
            hands(first, 0, 1, 1, 1);
            hands(first, 1, 0, 0, 0);
        }
    }

    private static void dones() {
        for (int wide = 0; wide <= 2; wide++) {
            // Each of up to three sent WORDS that none takes costs HAND 0 one ahead of its 'done'.
            for (int own = 0; own <= 3; own++) {
                String text = "if me = 0 then begin 1 mark 0 word 1; begin 2 mark 0 word 1; "
                        + "send 1 mark 9 word 1; ".repeat(own) + "done; else wait 0 mark 0 into a; end;";
                SendHall x = played(0, text, 3, 3, 1, wide);
                // Behind both MOVES: HAND 1 took at 1 and FAR, HAND 2 at 2 and FAR.
                int latest = Math.max(1 + 1 + wide + 1, 2 + 1 + 2 * wide + 1);
                int clock = 2 + own;
                hands(x, 0, Math.max(clock, latest) + 1, 3 + wide, 4 + 2 * wide);
                hands(x, 1, Math.max(0, latest - clock));
            }
        }
        hands(played(0, "if me = 0 then done; end;", 2, 0, 9, 9), 0, 1, 0);
        hands(played(0, "if me = 0 then done; end;", 2, 0, 9, 9), 1, 0, 0);
        // What was sent is not what was begun.
        SendHall sent = played(0, "if me = 0 then wait 1 mark 0 into a; else send 0 mark 0 word 1; done; end;", 2, 1, 50, 0);
        hands(sent, 0, 52, 2);
        hands(sent, 1, 51, 0);
        SendHall begun = played(0, "if me = 0 then wait 1 mark 0 into a; else begin 0 mark 0 word 1; done; end;", 2, 1, 50, 0);
        hands(begun, 0, 52, 53);
        hands(begun, 1, 51, 51);
        // Another HAND's WORDS count for none.
        SendHall other = played(0, "if me = 0 then wait 1 mark 0 into a; end; if me = 1 then begin 0 mark 0 word 1; end; "
                + "if me = 2 then done; end;", 3, 0, 50, 0);
        hands(other, 0, 52, 1, 1);
        SendHall twice = played(0, "if me = 0 then begin 1 mark 0 word 1; done; done; else wait 0 mark 0 into a; end;", 2, 0, 5, 0);
        hands(twice, 0, 9, 7);
        hands(twice, 1, 6, 6);
        // Too long, all the same taken.
        SendHall stops = played(1, "if me = 0 then begin 1 mark 0 word 1 long 3; done; else wait 0 mark 0 into a most 2; end;", 2, 0, 5, 0);
        hands(stops, 0, 8, 7);
        hands(stops, 6, 0, 1);
    }

    // ---- promise 17: what is told of a HAND

    private static void whats() {
        SendHall x = Due.hall("set b me + 1; set c 0 - me; tell me; if me = 0 then any mark 1 into a; wait 1 mark 2 into d; "
                + "else begin 0 mark 1 word 8; wait n mark 0 into a; end;", 2, 0);
        for (int what = -1; what <= 12; what++) {
            int w = what;
            Due.is("17: no PLAY yet", Due.ELEMENT, () -> x.of(0, w));
        }
        Due.is("16: STOPPED", 1, () -> x.play(0, 0));
        int[][] want = {{0, 2, 1}, {1, 1, 0}, {2, 5, 7}, {3, 0, 1}, {4, 1, 0}, {5, 2, 0}, {6, 0, 1}, {8, 8, 0}, {9, 1, 2},
            {10, 0, -1}, {11, 0, 0}};
        for (int[] row : want) {
            hands(x, row[0], row[1], row[2]);
        }
        for (int what : new int[] {-1, 7, 12, 13, Integer.MIN_VALUE, Integer.MAX_VALUE}) {
            Due.is("17: what " + what, Due.ELEMENT, () -> x.of(0, what));
        }
        for (int hand : new int[] {-1, 2, 8, Integer.MIN_VALUE, Integer.MAX_VALUE}) {
            Due.is("17: HAND " + hand, Due.ELEMENT, () -> x.of(hand, 0));
        }
        for (int n = 2; n <= 8; n++) {
            int last = n - 1;
            SendHall y = played(0, "tell me;", n, 0);
            Due.is("17: the last HAND", last, () -> y.of(last, 3));
            Due.is("17: behind the last HAND", Due.ELEMENT, () -> y.of(last + 1, 3));
        }
    }

    private static void noPlay(String why, SendHall x) {
        Due.is("17: " + why, Due.ELEMENT, () -> x.of(0, 0));
        Due.is("18: " + why, Due.ELEMENT, () -> x.ring(-1));
        Due.is("18: " + why, Due.ELEMENT, () -> x.ring(0));
        Due.is("19: " + why, Due.ELEMENT, () -> x.chose(-1));
        Due.is("19: " + why, Due.ELEMENT, () -> x.chose(0));
    }

    private static void aPlay(String why, SendHall x) {
        Due.is("17: " + why, 1, () -> x.of(0, 4));
        Due.is("18: " + why, 2, () -> x.ring(-1));
        Due.is("18: " + why, 1, () -> x.ring(1));
        Due.is("19: " + why, 1, () -> x.chose(-1));
        Due.is("19: " + why, 1, () -> x.chose(0));
    }

    private static void howLongAPlayLasts() {
        String text = "if me = 0 then any mark 1 into a; else meet 0 mark 1 word 8; end; wait 1 - me mark 2 into d;";
        SendHall x = Due.hall(text, 2, 0);
        noPlay("no PLAY yet", x);
        Due.is("16: LOCKED", 2, () -> x.play(0, 0));
        aPlay("behind the PLAY", x);
        x.world(2, 3, 99, 99);
        aPlay("the same n", x);
        x.world(1, 0, 0, 0);
        x.world(9, 0, 0, 0);
        aPlay("no other n", x);
        Due.is("16: refused", Due.ARGUMENT, () -> x.play(17, 0));
        aPlay("a PLAY that was refused", x);
        Due.is("3: refused", Due.ARGUMENT, () -> x.text(1));
        aPlay("a text() that was refused", x);
        Due.is("3: a FAULT", 1, () -> Due.text(x, "foo"));
        Due.is("3: a FAULT", 2, () -> Due.text(x, "tell 12345;"));
        aPlay("a FAULT", x);
        x.cut();
        x.least(0);
        x.needs();
        aPlay("what else is asked", x);
        x.world(3, 3, 99, 99);
        noPlay("another n", x);
        x.world(2, 3, 99, 99);
        noPlay("gone back from", x);
        x.world(2, 0, 0, 0);
        Due.is("16: LOCKED", 2, () -> x.play(0, 0));
        aPlay("once more", x);
        Due.is("3: another TEXT", 0, () -> Due.text(x, "all;"));
        noPlay("another TEXT", x);
        Due.is("3: the TEXT ahead again", 0, () -> Due.text(x, text));
        noPlay("another TEXT came since", x);
        Due.is("16: LOCKED", 2, () -> x.play(0, 0));
        aPlay("by the TEXT", x);
        Due.is("16: another PLAY", 2, () -> x.play(1, 0));
        Due.is("19: the latest", 0, () -> x.chose(-1));
        Due.is("17: the latest", 0, () -> x.of(0, 4));
    }

    // ---- WAITS FOR, THE RING

    private static void waitsFor() {
        for (int other = 1; other < 8; other++) {
            for (String step : new String[] {"send %d mark 0 word 1;", "meet %d mark 0 word 1;", "wait %d mark 0 into a;"}) {
                hands(played(2, "if me = 0 then " + String.format(step, other) + " end;", 8, 0), 5, 1 << other, 0, 0, 0, 0, 0, 0, 0);
            }
        }
        // At 'any': all others that haven't ENDED, those that STOPPED too.
        hands(played(2, "any mark 0 into a;", 8, 0), 5, 254, 253, 251, 247, 239, 223, 191, 127);
        hands(played(1, "if me < 4 then if me = 2 then wait me mark 0 into a; end; any mark 0 into a; end;", 8, 0), 5, 14, 13, 0, 7, 0, 0, 0, 0);
        hands(played(2, "if me = 3 then any mark 0 into a; end;", 8, 0), 5, 0, 0, 0, 0, 0, 0, 0, 0);
        // At 'done': those for whom the WORDS lie that it began, not those that it sent.
        hands(played(2, "if me = 0 then begin 2 mark 0 word 0; begin 2 mark 1 word 0; begin 4 mark 0 word 0; send 3 mark 0 word 0; "
                + "begin 1 mark 0 word 0; done; end; if me = 1 then wait 0 mark 0 into a; end;", 5, 1), 5, 20, 0, 0, 0, 0);
        // At 'all' and 'sum': those that aren't at such a STEP, those that ENDED too.
        hands(played(2, "if me < 3 then all; end;", 5, 0), 5, 24, 24, 24, 0, 0);
        hands(played(2, "if me < 3 then sum 1 into a; end;", 5, 0), 5, 24, 24, 24, 0, 0);
        hands(played(2, "if me < 2 then all; else sum 1 into a; end;", 4, 0), 5, 12, 12, 3, 3);
        hands(played(1, "if me = 1 then begin 1 mark 0 word 0; else all; end;", 3, 0), 5, 2, 0, 2);
        hands(played(0, "tell 1;", 3, 0), 5, 0, 0, 0);
    }

    private static void rings() {
        for (int n = 2; n <= 8; n++) {
            int[] all = new int[n];
            for (int i = 0; i < n; i++) {
                all[i] = i;
            }
            ring(played(2, "wait me + 1 - n * (me + 1 = n) mark 0 into a;", n, 0), all);
            ring(played(2, "if me = n - 1 then wait me - 1 mark 0 into a; else wait me + 1 mark 0 into a; end;", n, 0), n - 2, n - 1);
            ring(played(2, "any mark 0 into a;", n, 0), 0, 1);
            ring(played(1, "wait me + 1 mark 0 into a;", n, 0));
            ring(played(0, "all;", n, 0));
        }
        // From the least HAND that hasn't ENDED on; those that only lead there are none of THE RING.
        ring(played(2, "if 2 < me then wait 3 + (me = 3) + (me = 4) * 2 + (me = 5) mark 0 into a; end;", 6, 0), 4, 5);
        ring(played(2, "if me = 1 then wait 3 mark 0 into a; end; if 1 < me then wait 5 - me mark 0 into a; end;", 4, 0), 3, 2);
        ring(played(2, "if 0 < me then wait 4 - me + (me = 2) mark 0 into a; end;", 4, 0), 1, 3);
        // The least that it WAITS FOR, when there are several.
        ring(played(2, "if me = 0 then wait 3 mark 0 into a; end; if 0 < me then any mark 0 into a; end;", 4, 0), 0, 3);
        ring(played(2, "if me = 3 then begin 1 mark 0 word 0; begin 2 mark 0 word 0; done; end; if me = 1 then wait 3 mark 1 into a; end; "
                + "if me = 0 then wait 3 mark 1 into a; end;", 4, 0), 3, 1);
        // None, if one WAITS FOR none or has ENDED.
        ring(played(2, "if me = 0 then wait 1 mark 0 into a; end;", 2, 0));
        ring(played(1, "if me = 0 then wait 1 mark 0 into a; else wait me mark 0 into a; end;", 2, 0));
        ring(played(1, "if me = 0 then wait me mark 0 into a; else wait 3 - me mark 0 into a; end;", 3, 0));
        ring(played(2, "if me = 1 then any mark 0 into a; end;", 2, 0));
        ring(played(2, "if me = 0 then wait 2 mark 0 into a; end; if me = 1 then wait 0 mark 0 into a; end;", 3, 0));
        ring(played(2, "if me < 2 then all; end;", 3, 0));
        ring(played(2, "if 0 < me then all; end;", 3, 0));
        ring(played(2, "if me = 0 then all; else sum 1 into a; end;", 2, 0), 0, 1);
        // Behind a choice that can't be: HAND 0 at its 'any', the others at their 'meet'.
        SendHall x = Due.hall(STAR, 3, 0);
        Due.is("16: as LOCKED", 2, () -> x.play(1, 0));
        ring(x, 0, 1);
    }

    public static void main(String[] args) {
        many();
        choicesThatAreHands();
        toldChoices();
        whicheverIsFirst();
        handedOverOrLaid();
        sixteenChoices();
        mostMovesAndChoices();
        playedAnew();
        kinds();
        far();
        there();
        handedOver();
        together();
        dones();
        whats();
        howLongAPlayLasts();
        waitsFor();
        rings();
        clocksAnew();
        ringsAnew();
        Due.end("PlayBoundsTest");
    }
}
