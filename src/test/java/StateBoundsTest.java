/** The bounds that the document names for MOVES, STATES, ENDINGS, COULD, NEEDS and CUT DOWN: promises 8 to 15 and 20. */
public final class StateBoundsTest {
    private static final String[] OUTWARD = {"send", "meet", "begin"};

    /** 8 * 5 * 5 = 200 STATES with three HANDS, and a STEP of HAND 0 that comes behind; 'all' makes them 201. */
    private static final String FULL = "if me = 0 then " + "begin 1 mark 0 word 0;".repeat(7) + "else "
            + "begin 0 mark 0 word 0;".repeat(4) + "end;";

    /** HAND 0 takes the WORDS of HANDS 1 and 2 in either order, then one of HAND 3: 'from' tells no order any more. */
    private static final String FORGET = "if me = 0 then any mark 0 into a; any mark 0 into b; wait 3 mark 1 into c; %s "
            + "else if me < 3 then begin 0 mark 0 word me; else begin 0 mark 1 word 0; end; end;";

    private static void one(String text, int n, int room, int kind, int words, int bits) {
        SendHall x = Due.hall(text, n, room);
        String shown = text + " by " + n + " HANDS, ROOM " + room;
        Due.is("9: one ENDING of " + shown, 1, () -> x.endings(-1));
        Due.is("9: its kind's of " + shown, 1, () -> x.endings(kind));
        Due.is("10: kind of " + shown, kind, () -> x.ending(0, 0));
        Due.is("10: WORDS of " + shown, words, () -> x.ending(0, 1));
        Due.is("10: HANDS of " + shown, bits, () -> x.ending(0, 2));
        Due.is("16: the PLAY of " + shown, kind, () -> x.play(0, 0));
    }

    private static void told(String text, int n, int room, int... want) {
        SendHall x = Due.hall(text, n, room);
        Due.is("9: one ENDING by " + n + ": " + text, 1, () -> x.endings(-1));
        x.play(0, 0);
        for (int hand = 0; hand < want.length; hand++) {
            int h = hand;
            Due.is("10: TOLD of HAND " + h + " by " + n + ": " + text, want[h], () -> x.ending(0, 4 + h));
            Due.is("17: TOLD of HAND " + h + " by " + n + ": " + text, want[h], () -> x.of(h, 3));
        }
    }

    private static void reached(String text, int n, int room, int want) {
        SendHall x = Due.hall(text, n, room);
        Due.is("8: REACHED by " + n + " HANDS, ROOM " + room + ": " + text, want, x::reached);
    }

    // ---- HANDS and QUIET STEPS

    private static void firstValues() {
        for (int n = 2; n <= 8; n++) {
            String text = "tell a; tell b; tell c; tell d; tell from; tell me + 1; tell n;";
            int[] want = new int[n];
            for (int hand = 0; hand < n; hand++) {
                want[hand] = 31 * (hand + 1) + n;
            }
            told(text, n, 0, want);
            reached(text, n, 0, 1);
            one(text, n, 0, 0, 0, 0);
        }
    }

    private static void quietSteps() {
        String text = "set a 5; if a = 5 then tell a; set b a + 1; else tell 7; end; tell b;";
        reached(text, 2, 0, 1);
        told(text, 2, 0, 5 * 31 + 6, 5 * 31 + 6);
        reached("done;" + text, 2, 0, 4);
        String[] tests = {"0", "1", "2", "9999", "0 - 1", "1 - 1", "1 / 2", "1 / 0", "0 < 0", "0 = 0", "1 < 0", "0 - 1 < 0",
            "9999 * 9999 * 4096 * 16 * 16", "9999 * 4096 * 4096 * 16 * 16"};
        int[] holds = {0, 1, 1, 1, 1, 0, 0, 0, 0, 1, 0, 1, 1, 0};
        for (int i = 0; i < tests.length; i++) {
            told("if " + tests[i] + " then tell 3; else tell 4; end; tell 5;", 2, 0, (holds[i] == 1 ? 3 : 4) * 31 + 5);
            told("if " + tests[i] + " then tell 3; end; tell 5;", 2, 0, holds[i] * 3 * 31 + 5);
            told("if " + tests[i] + " then else tell 4; end; tell 5;", 2, 0, (1 - holds[i]) * 4 * 31 + 5);
            told("if " + tests[i] + " then else end; tell 5;", 2, 0, 5);
        }
        told("if 1 then if 1 then tell 1; else tell 2; end; else tell 3; end; tell 4;", 2, 0, 31 + 4);
        told("if 1 then if 0 then tell 1; else tell 2; end; else tell 3; end; tell 4;", 2, 0, 2 * 31 + 4);
        told("if 1 then if 0 then tell 1; end; else tell 3; end; tell 4;", 2, 0, 4);
        told("if 0 then tell 1; else if 1 then tell 2; else tell 3; end; end; tell 4;", 2, 0, 2 * 31 + 4);
        told("if 0 then tell 1; else if 0 then tell 2; else tell 3; end; end; tell 4;", 2, 0, 3 * 31 + 4);
    }

    private static int row(int... told) {
        int all = 0;
        for (int value : told) {
            all = 31 * all + value;
        }
        return all;
    }

    private static void intsThatWrap() {
        int big = 9999 * 9999 * 9999;
        told("tell 9999 * 9999 * 9999;", 2, 0, big);
        told("set a 9999 * 9999; tell a * a; tell a * a * a;", 2, 0, row(99980001 * 99980001, 99980001 * 99980001 * 99980001));
        String max = "(4096 * 4096 * 128 - 1)";
        told("tell " + max + ";", 2, 0, Integer.MAX_VALUE);
        told("tell " + max + " + 1;", 2, 0, Integer.MIN_VALUE);
        told("tell 0 - " + max + " - 1;", 2, 0, Integer.MIN_VALUE);
        told("tell 0 - " + max + " - 2;", 2, 0, Integer.MAX_VALUE);
        told("tell (0 - " + max + " - 1) / (0 - 1);", 2, 0, Integer.MIN_VALUE);
        told("tell " + max + " + 1 < " + max + ";", 2, 0, 1);
        told("tell 9999; tell 9999; tell 9999; tell 9999; tell 9999; tell 9999; tell 9999;", 2, 0,
                row(9999, 9999, 9999, 9999, 9999, 9999, 9999));
        String[] quotients = {"7 / 2", "(0 - 7) / 2", "7 / (0 - 2)", "(0 - 7) / (0 - 2)", "1 / 2", "(0 - 1) / 2", "6 / 3", "5 / 0",
            "(0 - 5) / 0", "0 / 0", "0 / 5", "1 + 5 / 0 * 7", "7 / (3 - 3) + 2"};
        int[] want = {3, -3, -3, 3, 0, 0, 2, 0, 0, 0, 0, 1, 2};
        for (int i = 0; i < quotients.length; i++) {
            told("tell " + quotients[i] + ";", 2, 0, want[i]);
        }
    }

    // ---- STOPS

    private static String step(String kind, String other) {
        return kind + " " + other + (kind.equals("wait") ? " mark 0 into a;" : " mark 0 word 1;");
    }

    private static void stops() {
        String big = "4096 * 4096 * 128";
        for (String kind : new String[] {"send", "meet", "begin", "wait"}) {
            int apart = kind.equals("begin") ? 0 : 2;
            int lies = kind.equals("begin") ? 1 : 0;
            for (int n = 2; n <= 8; n++) {
                String first = "if me = 0 then " + step(kind, "%s") + " end;";
                one(String.format(first, "" + (n - 1)), n, 0, apart, lies, apart / 2);
                one(String.format(first, "1"), n, 0, apart, lies, apart / 2);
                String last = "if me = n - 1 then " + step(kind, "%s") + " end;";
                one(String.format(last, "0"), n, 0, apart, lies, apart / 2 << n - 1);
                for (String none : new String[] {"n", "n + 1", "0 - 1", "0 - n", "me", big, big + " - 1", "9999"}) {
                    one(String.format(first, none), n, 3, 1, 0, 1);
                    one(String.format(last, none), n, 3, 1, 0, 1 << n - 1);
                    reached(String.format(last, none), n, 3, 1);
                }
            }
            told("if me = 0 then tell 3; done; tell 4; " + step(kind, "me") + " tell 5; end; tell 6;", 2, 0, 3 * 31 + 4, 6);
        }
        one("if me = 0 then any mark 0 into a; end;", 2, 0, 2, 0, 1);
        // STOPPED goes ahead of LOCKED, and WHOLE are those alone that all ENDED.
        one("if me = 0 then wait 1 mark 0 into a; else wait me mark 0 into a; end;", 2, 0, 1, 0, 3);
        one("if me = 0 then all; else wait me mark 0 into a; end;", 2, 0, 1, 0, 3);
        one("if me = 1 then wait me mark 0 into a; end;", 3, 0, 1, 0, 2);
    }

    // ---- MOVES

    private static void begins() {
        for (int many = 0; many <= 29; many++) {
            String text = "if me=0then " + "begin 1mark 0word 1;".repeat(many) + "end;";
            reached(text, 2, 0, many + 1);
            one(text, 2, 0, 0, many, 0);
        }
    }

    private static void dones() {
        one("done;", 2, 0, 0, 0, 0);
        reached("done;", 2, 0, 4);
        one("if me = 0 then begin 1 mark 0 word 1; done; end;", 2, 0, 2, 1, 1);
        one("if me = 0 then begin 1 mark 0 word 1; done; else wait 0 mark 0 into a; end;", 2, 0, 0, 0, 0);
        one("if me = 0 then begin 1 mark 0 word 1; begin 1 mark 0 word 1; done; else wait 0 mark 0 into a; end;", 2, 0, 2, 1, 1);
        one("if me = 0 then begin 1 mark 0 word 1; begin 2 mark 0 word 1; done; end; if me = 1 then wait 0 mark 0 into a; end;",
                3, 0, 2, 1, 1);
        // What was sent, or another HAND began, is no hindrance.
        one("if me = 0 then send 1 mark 0 word 1; done; end;", 2, 1, 0, 1, 0);
        one("if me = 0 then begin 1 mark 0 word 1; else done; end;", 2, 0, 0, 1, 0);
        one("if me = 0 then wait 1 mark 5 into a; done; else begin 0 mark 0 word 1; begin 0 mark 5 word 1; end;", 2, 0, 0, 1, 0);
        one("if me = 0 then begin 1 mark 0 word 1; done; else wait 0 mark 0 into a; begin 0 mark 0 word 1; done; end;", 2, 0, 2, 1, 2);
    }

    private static void rooms() {
        for (int room = 0; room <= 3; room++) {
            for (int many = 0; many <= 5; many++) {
                String text = "if me = 0 then " + "send 1 mark 0 word 1;".repeat(many) + "end;";
                boolean fits = many <= room;
                one(text, 2, room, fits ? 0 : 2, fits ? many : room, fits ? 0 : 1);
                // What lies from HAND 0 to 1 and from 1 to 0, or to HAND 2, has a ROOM each.
                String both = "send 1 - me mark 0 word 1;".repeat(many);
                one(both, 2, room, fits ? 0 : 2, 2 * (fits ? many : room), fits ? 0 : 3);
                String two = "if me = 0 then " + ("send 1 mark 0 word 1;" + "send 2 mark 0 word 1;").repeat(many) + "end;";
                one(two, 3, room, fits ? 0 : 2, 2 * (fits ? many : room), fits ? 0 : 1);
            }
            // What was begun takes no ROOM; what was taken has left it.
            String begun = "if me = 0 then " + "begin 1 mark 0 word 1;".repeat(4) + "send 1 mark 0 word 1;".repeat(2) + "end;";
            one(begun, 2, room, room < 2 ? 2 : 0, 4 + Math.min(room, 2), room < 2 ? 1 : 0);
            String taken = "if me = 0 then " + "send 1 mark 0 word 1;".repeat(5) + "else " + "wait 0 mark 0 into a;".repeat(5) + "end;";
            one(taken, 2, room, 0, 0, 0);
            reached(taken, 2, room, new int[] {6, 11, 15, 18}[room]);
            one(taken.replace("send", "meet"), 2, room, 0, 0, 0);
            reached(taken.replace("send", "meet"), 2, room, 6);
        }
    }

    private static void meets() {
        String two = "if me = 0 then %s else if me = 1 then %s else %s end; end;";
        for (String kind : new String[] {"send", "meet"}) {
            String word = kind + " 1 mark 3 word 9;";
            one(String.format(two, word, "wait 0 mark 3 into a;", ""), 3, 0, 0, 0, 0);
            one(String.format(two, word, "any mark 3 into a;", ""), 3, 0, 0, 0, 0);
            one(String.format(two, word, "wait 0 mark 4 into a;", ""), 3, 0, 2, 0, 3);
            one(String.format(two, word, "any mark 2 into a;", ""), 3, 0, 2, 0, 3);
            one(String.format(two, word, "wait 2 mark 3 into a;", ""), 3, 0, 2, 0, 3);
            one(String.format(two, word, "", "wait 0 mark 3 into a;"), 3, 0, 2, 0, 5);
            one(String.format(two, word, "all;", ""), 3, 0, 2, 0, 3);
            one(String.format(two, word, "sum 0 into a;", ""), 3, 0, 2, 0, 3);
            one(String.format(two, word, "meet 0 mark 3 word 9;", ""), 3, 0, 2, 0, 3);
            // A WORD of that mark lies between both: none is handed over ahead of it.
            one(String.format(two, "begin 1 mark 3 word 8;" + word, "wait 0 mark 3 into a;", ""), 3, 0, 2, 0, 1);
            one(String.format(two, "begin 1 mark 3 word 8;" + word, "any mark 3 into a;", ""), 3, 0, 2, 0, 1);
            // One of another mark, one that another HAND began, or one that goes the other way doesn't hinder.
            one(String.format(two, "begin 1 mark 4 word 8;" + word, "wait 0 mark 3 into a;", ""), 3, 0, 0, 1, 0);
            one(String.format(two, "wait 2 mark 5 into a;" + word, "wait 0 mark 3 into a;",
                    "begin 1 mark 3 word 8; begin 0 mark 5 word 0;"), 3, 0, 0, 1, 0);
            one(String.format(two, word, "begin 0 mark 3 word 8; wait 0 mark 3 into a;", ""), 3, 0, 0, 1, 0);
        }
        // A 'meet' lies by no ROOM; a 'send' that has ROOM lies though the other waits for it.
        one(String.format(two, "meet 1 mark 3 word 9;", "", ""), 3, 3, 2, 0, 1);
        reached(String.format(two, "meet 1 mark 3 word 9;", "wait 0 mark 3 into a;", ""), 3, 3, 2);
        reached(String.format(two, "send 1 mark 3 word 9;", "wait 0 mark 3 into a;", ""), 3, 0, 2);
        reached(String.format(two, "send 1 mark 3 word 9;", "wait 0 mark 3 into a;", ""), 3, 1, 3);
        one(String.format(two, "send 1 mark 2 word 8; send 1 mark 3 word 9;", "wait 0 mark 3 into a;", ""), 3, 1, 0, 1, 0);
        one(String.format(two, "send 1 mark 2 word 8; send 1 mark 3 word 9;", "wait 0 mark 3 into a;", ""), 3, 0, 2, 0, 3);
    }

    private static void takes() {
        String order = "if me = 0 then begin 1 mark 1 word 5; begin 1 mark 2 word 6; begin 1 mark 1 word 7; else %s end;";
        told(String.format(order, "wait 0 mark 1 into a; tell a; wait 0 mark 1 into b; tell b; wait 0 mark 2 into c; tell c;"),
                2, 0, 0, row(5, 7, 6));
        told(String.format(order, "wait 0 mark 2 into a; tell a; wait 0 mark 1 into b; tell b; wait 0 mark 1 into c; tell c;"),
                2, 0, 0, row(6, 5, 7));
        told(String.format(order, "any mark 1 into a; tell a; any mark 2 into b; tell b; any mark 1 into c; tell c;"), 2, 0, 0,
                row(5, 6, 7));
        one(String.format(order, "wait 0 mark 3 into a;"), 2, 0, 2, 3, 2);
        one(String.format(order, "any mark 0 into a;"), 2, 0, 2, 3, 2);
        one("if me = 2 then begin 1 mark 0 word 5; end; if me = 1 then wait 0 mark 0 into a; end;", 3, 0, 2, 1, 2);
        told("if me = 0 then begin 1 mark 0 word 5; else wait 0 mark 0 into c; tell c; tell from + 7; end;", 2, 0, 0, row(5, 7));
        told("if me = 1 then meet 0 mark 0 word 5; else any mark 0 into d; tell d; tell from; end;", 2, 0, row(5, 1));
        String star = "if me = 0 then any mark 0 into a; else begin 0 mark 0 word me; end;";
        for (int n = 2; n <= 6; n++) {
            SendHall x = Due.hall(star, n, 0);
            int hands = n - 1;
            // All that have begun, and once for each that could be taken.
            int states = (1 << hands) + hands * (1 << hands - 1);
            Due.is("8: a MOVE of each, " + n + " HANDS", states, x::reached);
            Due.is("12: each, " + n + " HANDS", (1 << n) - 2, () -> x.could(0, 1));
        }
    }

    private static void size(String kind, String taker, int size, int most) {
        String text = "if me = 0 then " + kind + " 1 mark 0 word 7" + (size > 0 ? " long " + size : "") + "; tell 1; else "
                + taker + " mark 0 into c" + (most > 0 ? " most " + most : "") + "; tell c; end;";
        boolean fits = Math.max(size, 1) <= (most == 0 ? 99 : most);
        one(text, 2, 1, fits ? 0 : 1, 0, fits ? 0 : 2);
        told(text, 2, 1, 1, fits ? 7 : 0);
        SendHall x = Due.hall(text.replace("wait 0", "wait 1 - me"), 2, 1);
        x.play(0, 0);
        Due.is("17: all the same it is in its VAR: " + text, 7, () -> x.of(1, 10));
        Due.is("17: STOPPED: " + text, fits ? 0 : 1, () -> x.of(1, 6));
        Due.is("17: the one that sent did not: " + text, 0, () -> x.of(0, 6));
        Due.is("17: STEP: " + text, fits ? -1 : 3, () -> x.of(1, 2));
    }

    private static void sizes() {
        int[] bounds = {0, 1, 2, 50, 98, 99};
        for (String kind : OUTWARD) {
            for (String taker : new String[] {"wait 0", "any"}) {
                for (int size : bounds) {
                    for (int most : bounds) {
                        size(kind, taker, size, most);
                    }
                }
            }
        }
    }

    private static void together() {
        for (String step : new String[] {"all;", "sum me into a;"}) {
            for (int n = 2; n <= 8; n++) {
                one(step, n, 0, 0, 0, 0);
                reached(step, n, 0, 2);
                one("if me < n - 1 then " + step + " end;", n, 0, 2, 0, (1 << n - 1) - 1);
                one("if 0 < me then " + step + " end;", n, 0, 2, 0, (1 << n) - 2);
                one("if me = 1 then wait me mark 0 into a; else " + step + " end;", n, 0, 1, 0, (1 << n) - 1);
            }
            // At 'all' or 'sum' STEPS that aren't the same ones they meet, too.
            one("if me = 0 then " + step + " else if me = 1 then " + step + " else " + step + " end; end;", 3, 0, 0, 0, 0);
        }
        one("if me = 0 then all; else sum me into a; end;", 2, 0, 2, 0, 3);
        one("if me = 0 then sum me into a; else all; end;", 3, 0, 2, 0, 7);
        told("if me = 0 then sum 5 into a; tell a; else if me = 1 then sum 6 into d; tell d; tell a; else sum 7 into b; tell b; end; end;",
                3, 0, 18, 18 * 31, 18);
        told("sum me + 1 into a; tell a; tell from;", 8, 0, 36 * 31, 36 * 31, 36 * 31, 36 * 31, 36 * 31, 36 * 31, 36 * 31, 36 * 31);
        told("sum 4096 * 4096 * 64 into a; tell a; tell from;", 2, 0, 31 * Integer.MIN_VALUE);
        told("sum 4096 * 4096 * 64 + me into a; tell a;", 4, 0, 6);
        told("set b 3; sum b into b; tell b; sum b into c; tell c;", 2, 0, row(6, 12), row(6, 12));
    }

    // ---- STATES

    private static void forget(String behind, int want) {
        reached(String.format(FORGET, behind), 4, 1, want);
    }

    /** Both orders end in one STATE, or in two if one thing differs: each thing that is part of a STATE. */
    private static void partsOfAState() {
        forget("set a 0; set b 0;", 21);
        forget("set a a = 1; set b 0;", 22);
        forget("set b a = 1; set a 0;", 22);
        forget("set c a = 1; set a 0; set b 0;", 22);
        forget("set d a = 1; set a 0; set b 0;", 22);
        forget("tell a; set a 0; set b 0;", 22);
        forget("set a 0; set b 0; wait 3 mark 5 into d;", 21);
        forget("set c a; set a 0; set b 0; if c = 1 then set c 0; wait 3 mark 5 into d; else set c 0; wait 3 mark 5 into d; end;", 22);
        forget("set c a; set a 0; set b 0; if c = 1 then set c 0; wait 3 mark 5 into d; else set c 0; end;", 22);
        String star = "if me = 0 then any mark 0 into a; any mark 0 into b; set a 0; set b 0; else begin 0 mark 0 word me; end;";
        reached(star, 3, 0, 10);
        String last = " set a 0; set b 0;";
        forget("begin 1 mark 7 word 0;" + last, 23);
        forget("begin 1 mark a word 0;" + last, 24);
        forget("begin 1 mark 7 word a;" + last, 24);
        forget("begin a mark 7 word 0;" + last, 24);
        String fork = "if a = 1 then %s else %s end;" + last;
        forget(String.format(fork, "begin 1 mark 7 word 0;", "begin 1 mark 7 word 0;"), 23);
        forget(String.format(fork, "begin 1 mark 7 word 0 long 1;", "begin 1 mark 7 word 0;"), 23);
        forget(String.format(fork, "begin 1 mark 7 word 0 long 2;", "begin 1 mark 7 word 0;"), 24);
        forget(String.format(fork, "send 1 mark 7 word 0;", "begin 1 mark 7 word 0;"), 24);
        forget(String.format(fork, "begin 1 mark 7 word 0; begin 1 mark 8 word 0;", "begin 1 mark 8 word 0; begin 1 mark 7 word 0;"), 26);
        forget(String.format(fork, "begin 1 mark 7 word 0; begin 2 mark 7 word 0;", "begin 2 mark 7 word 0; begin 1 mark 7 word 0;"), 25);
    }

    /** HAND 0 STOPPED, or waits, at one STEP: all else is alike. */
    private static void stoppedIsPartOfAState() {
        SendHall x = Due.hall("if me = 0 then begin 1 mark 0 word 0; wait 1 mark 2 into c; wait 1 mark 1 into c most 1; end; "
                + "if me = 2 then begin 1 mark 0 word 2; begin 1 mark 3 word 0; end; "
                + "if me = 1 then begin 0 mark 2 word 0; any mark 0 into a; any mark 0 into b; wait 2 mark 3 into c; "
                + "if a = 2 then begin 0 mark 1 word 0 long 2; end; set a 0; set b 0; end;", 3, 0);
        Due.is("9: both", 2, () -> x.endings(-1));
        Due.is("9: STOPPED", 1, () -> x.endings(1));
        Due.is("9: LOCKED", 1, () -> x.endings(2));
        Due.is("10: HAND 0 STOPPED", 1, () -> x.ending(0, 2));
        Due.is("10: HAND 0 waits", 1, () -> x.ending(1, 2));
    }

    /** By which mark a HAND waited for the WORD that was too long is no part of the STATE in which it STOPPED. */
    private static void stoppedForgetsItsMark() {
        String text = "if me = 0 then any mark 0 into a; any mark 0 into b; set b 0; wait 3 mark 1 into c; wait 3 mark %s into a most 1; "
                + "else if me < 3 then begin 0 mark 0 word me; else begin 0 mark 1 word 0; begin 0 mark %s word 5 long 2; "
                + "begin 0 mark %s word 5 long 2; wait 0 mark 0 into d; end; end;";
        // One of the two WORDS of HAND 3 is left in each ENDING, by the mark that wasn't asked for.
        SendHall marks = Due.hall(String.format(text, "a", "1", "2"), 4, 0);
        Due.is("8: which one lies differs", 10 * 4 + 2 * 3 + 3, marks::reached);
        String meet = "if me = 0 then any mark 0 into a; any mark 0 into b; set b 0; wait 3 mark 1 into c; begin 3 mark 2 word a; "
                + "wait 3 mark 3 into c; any mark a into a most 1; else if me < 3 then begin 0 mark 0 word me; else "
                + "begin 0 mark 1 word 0; wait 0 mark 2 into a; begin 0 mark 3 word 0; meet 0 mark a word 5 long 2; set a 0; end; end;";
        SendHall one = Due.hall(meet, 4, 0);
        Due.is("9: one ENDING", 1, () -> one.endings(-1));
        Due.is("8: both come to one STATE", 20 + 2 * 5 + 1, one::reached);
    }

    /** Numbers of which 31 times one and the next are alike in sum: STATES that differ all the same. */
    private static void statesThatAreNearlyAlike() {
        String alike = "set b 31 * (a = 2); set a a = 1; wait 3 mark 5 into d;";
        forget(alike, 22);
        forget("set d 31 * (a = 2); set c a = 1; set a 0; set b 0; wait 3 mark 5 into d;", 22);
        // The same with HAND 3 as the one that takes.
        reached("if me = 3 then any mark 0 into a; any mark 0 into b; wait 0 mark 1 into c; " + alike.replace("wait 3", "wait 0")
                + " else if 0 < me then begin 3 mark 0 word me; else begin 3 mark 1 word 0; end; end;", 4, 0, 22);
        String both = "if a = 1 then %s else %s end; set a 0; set b 0;";
        forget(String.format(both, "begin 1 mark 1 word 0;", "begin 1 mark 0 word 31;"), 24);
        forget(String.format(both, "begin 1 mark 1 word 0; begin 1 mark 0 word 0;", "begin 1 mark 0 word 0; begin 1 mark 31 * 961 word 0;"), 26);
        forget(String.format(both, "begin 1 mark 0 word 1; begin 1 mark 0 word 0;", "begin 1 mark 0 word 0; begin 1 mark 0 word 31 * 961;"), 26);
    }

    private static String chain(int more) {
        return "if 0<me then wait me-1mark 0into a;end;" + "begin(me=0)mark 1word 1;".repeat(23)
                + "if me=0then " + "begin 1mark 1word 1;".repeat(more) + "end;if me<n-1then begin me+1mark 0word 1;end;";
    }

    /** One HAND behind the other begins 23 WORDS that none takes: up to 200 STATES, and nearly as many WORDS. */
    private static void manyWords() {
        for (int n = 2; n <= 8; n++) {
            int hands = n;
            SendHall x = Due.hall(chain(0), n, 0);
            Due.is("8: one behind the other", 1 + 23 * n + 2 * (n - 1), x::reached);
            Due.is("10: WORDS that lie", 23 * n, () -> x.ending(0, 1));
            Due.is("16: WHOLE", 0, () -> x.play(0, 0));
            Due.is("17: the last HAND", 25 * n - 2, () -> x.of(hands - 1, 0));
        }
        SendHall most = Due.hall(chain(1), 8, 0);
        Due.is("8: 200", 200, most::reached);
        Due.is("10: 185 WORDS", 185, () -> most.ending(0, 1));
        SendHall more = Due.hall(chain(2), 8, 0);
        Due.is("8: 201", -1, more::reached);
        Due.is("9: 201", -2, () -> more.endings(0));
    }

    /** What was found for a TEXT, or a world, is told of that one alone. */
    private static void foundAnew() {
        SendHall x = Due.hall("done;", 2, 0);
        String[] texts = {"done;", "all;", "done; done;", "wait 1 - me mark 0 into a;", "", "done;"};
        int[] states = {4, 2, 9, 1, 1, 4};
        for (int i = 0; i < texts.length; i++) {
            int k = i;
            Due.is("3: " + texts[i], 0, () -> Due.text(x, texts[k]));
            Due.is("8: " + texts[i], states[i], x::reached);
            Due.is("9: " + texts[i], i == 3 ? 1 : 0, () -> x.endings(2));
            Due.is("3: a FAULT", 1, () -> Due.text(x, "foo"));
            Due.is("8: still " + texts[i], states[i], x::reached);
            x.needs();
            x.cut();
            Due.is("8: and behind cut() " + texts[i], states[i], x::reached);
        }
        x.world(3, 0, 0, 0);
        Due.is("8: by three", 8, x::reached);
        x.world(2, 3, 0, 0);
        Due.is("8: by two again", 4, x::reached);
    }

    private static void twoHundred() {
        SendHall x = Due.hall(FULL, 3, 0);
        Due.is("8: 200 are not more than 200", 200, x::reached);
        Due.is("9: 200", 1, () -> x.endings(-1));
        Due.is("9: 200", 0, () -> x.endings(1));
        Due.is("10: 200", 15, () -> x.ending(0, 1));
        Due.is("13: 200", 0, x::needs);
        Due.is("14: 200, none LOCKED", -1, x::cut);
        SendHall y = Due.hall(FULL + "all;", 3, 0);
        Due.is("8: 201", -1, y::reached);
        for (int kind = -1; kind <= 2; kind++) {
            int k = kind;
            Due.is("9: 201, kind " + k, -2, () -> y.endings(k));
        }
        Due.is("9: 201, another kind", Due.ELEMENT, () -> y.endings(3));
        Due.is("9: 201, another kind", Due.ELEMENT, () -> y.endings(-2));
        for (int what = 0; what < 8; what++) {
            int w = what;
            Due.is("10: 201, " + w, Due.ELEMENT, () -> y.ending(0, w));
        }
        Due.holds("11: 201", false, y.differs());
        Due.is("13: 201", -1, y::needs);
        Due.is("14: 201", -1, y::cut);
        Due.is("16: a PLAY isn't SPENT", 0, () -> y.play(0, 0));
        Due.is("20: nor is least()", 3, () -> Due.hall(FULL + "all; if 2 < n then wait 1 - (me = 1) mark 9 into a; end;", 3, 0).least(0));
        y.world(2, 0, 0, 0);
        Due.is("8: with fewer HANDS", 41, y::reached);
        y.world(3, 0, 0, 0);
        Due.is("8: with three again", -1, y::reached);
    }

    private static void twoHundredWithMore() {
        String wait = "if me = 0 then any mark 9 into a; end;";
        SendHall x = Due.hall(FULL + wait, 3, 0);
        Due.is("8: 200", 200, x::reached);
        Due.is("12: 200", 0, () -> x.could(0, 13));
        Due.is("14: 200 with one LOCKED", 1, x::cut);
        Due.holds("15: what locks", true, x.left(13));
        Due.holds("15: what doesn't", false, x.left(1));
        SendHall y = Due.hall(FULL + "all;" + wait, 3, 0);
        Due.is("8: 201", -1, y::reached);
        Due.is("12: 201", -1, () -> y.could(0, 14));
        Due.is("12: 201, no 'any'", Due.ELEMENT, () -> y.could(0, 13));
        Due.is("12: 201, no HAND", Due.ELEMENT, () -> y.could(3, 14));
        Due.is("13: 201", -1, y::needs);
        Due.is("14: 201", -1, y::cut);
        Due.is("15: nothing is kept", Due.ELEMENT, () -> y.left(0) ? 1 : 0);
        SendHall z = Due.hall("all;" + FULL, 3, 0);
        Due.is("8: the first counts, too", -1, z::reached);
        String star = "if me = 0 then any mark 0 into a; any mark 0 into b; tell a; else begin 0 mark 0 word me; end;";
        Due.holds("11: unlike", true, Due.hall(star + "all; done;", 3, 0).differs());
        SendHall spent = Due.hall("if me=0then any mark 0into a;any mark 0into b;tell a;else begin 0mark 0word me;end;all;" + FULL, 3, 0);
        Due.is("8: SPENT", -1, spent::reached);
        Due.holds("11: false if SPENT", false, spent.differs());
    }

    // ---- ENDINGS

    private static void kinds() {
        String text = "if me = 0 then any mark 0 into a; any mark 0 into b; if a = 1 then wait 1 mark 9 into b; end; "
                + "if a = 2 then wait 0 mark 9 into b; end; else begin 0 mark 0 word me; end;";
        SendHall x = Due.hall(text, 4, 0);
        int[] many = {1, 1, 1};
        for (int kind = 0; kind < 3; kind++) {
            int k = kind;
            Due.is("9: kind " + k, many[k], () -> x.endings(k));
            Due.is("10: kinds in their order", k, () -> x.ending(k, 0));
        }
        Due.is("9: all", 3, () -> x.endings(-1));
        for (int kind : new int[] {-2, 3, 4, Integer.MIN_VALUE, Integer.MAX_VALUE}) {
            Due.is("9: kind " + kind, Due.ELEMENT, () -> x.endings(kind));
        }
        for (int i : new int[] {-1, 3, 199, 200, Integer.MIN_VALUE, Integer.MAX_VALUE}) {
            for (int what = 0; what < 8; what++) {
                int w = what;
                Due.is("10: ending(" + i + ", " + w + ")", Due.ELEMENT, () -> x.ending(i, w));
            }
        }
    }

    private static void whats() {
        for (int n = 2; n <= 8; n++) {
            SendHall x = Due.hall("tell me + 3; if me = 1 then wait 0 mark 0 into a; end; if me = 0 then begin 1 mark 5 word 0; end;",
                    n, 0);
            Due.is("10: kind", 2, () -> x.ending(0, 0));
            Due.is("10: WORDS", 1, () -> x.ending(0, 1));
            Due.is("10: HANDS", 2, () -> x.ending(0, 2));
            for (int hand = 0; hand < n; hand++) {
                int h = hand;
                Due.is("10: TOLD of HAND " + h, h + 3, () -> x.ending(0, 4 + h));
            }
            for (int what : new int[] {-1, 3, 4 + n, 12, Integer.MIN_VALUE, Integer.MAX_VALUE}) {
                Due.is("10: what " + what + " by " + n, Due.ELEMENT, () -> x.ending(0, what));
            }
        }
    }

    private static void ending(SendHall x, int i, int... want) {
        for (int what = 0; what < want.length; what++) {
            int w = what;
            if (w != 3) {
                Due.is("10: ending(" + i + ", " + w + ")", want[w], () -> x.ending(i, w));
            }
        }
        Due.is("10: behind the last", Due.ELEMENT, () -> x.ending(x.endings(-1), 0));
    }

    /** HAND 0 takes first what HAND 1, 2 or 3 began: by which one, what follows differs. */
    private static SendHall star(String behind) {
        String text = "if me=0then any mark 0into a;any mark 0into b;any mark 0into c;%s else begin 0mark 0word me;end;";
        return Due.hall(String.format(text, behind), 4, 0);
    }

    private static void orders() {
        SendHall told = star("tell 2-a;");
        Due.is("9: by TOLD", 3, () -> told.endings(0));
        ending(told, 0, 0, 0, 0, 0, -1);
        ending(told, 1, 0, 0, 0, 0, 0);
        ending(told, 2, 0, 0, 0, 0, 1);
        // The least int comes first, the highest one last.
        SendHall ends = star("tell 4096*4096*128-(a=2);");
        Due.is("9: two", 2, () -> ends.endings(0));
        ending(ends, 0, 0, 0, 0, 0, Integer.MIN_VALUE);
        ending(ends, 1, 0, 0, 0, 0, Integer.MAX_VALUE);
        SendHall alike = star("tell 5;");
        Due.is("9: ENDINGS that tell alike are one", 1, () -> alike.endings(-1));
        SendHall words = star("if a=1then begin 1mark 5word 0;end;if a=2then begin 1mark 6word 0;begin 1mark 6word 0;end;");
        Due.is("9: by WORDS", 3, () -> words.endings(0));
        ending(words, 0, 0, 0);
        ending(words, 1, 0, 1);
        ending(words, 2, 0, 2);
        SendHall marks = star("begin 1mark a word b;");
        Due.is("9: WORDS are but counted", 1, () -> marks.endings(-1));
        // TOLD goes ahead of WORDS, the kind ahead of TOLD.
        SendHall ahead = star("if a=1then begin 1mark 5word 0;else tell a;end;");
        ending(ahead, 0, 0, 1, 0, 0, 0);
        ending(ahead, 1, 0, 0, 0, 0, 2);
        SendHall kind = star("if a=1then tell 9;else wait a mark 5into b;end;");
        Due.is("9: WHOLE and LOCKED", 2, () -> kind.endings(-1));
        ending(kind, 0, 0, 0, 0, 0, 9);
        ending(kind, 1, 2, 0, 1, 0, 0);
    }

    private static void ordersByBits() {
        String text = "if me=0then any mark 0into a;any mark 0into b;begin a mark 5word 0;else begin 0mark 0word me;"
                + "%s wait 0mark 5into b;end;";
        SendHall bits = Due.hall(String.format(text, ""), 3, 0);
        Due.is("9: by bits", 2, () -> bits.endings(2));
        ending(bits, 0, 2, 0, 2);
        ending(bits, 1, 2, 0, 4);
        // WORDS go ahead of bits: more lie where the least bits are.
        SendHall words = Due.hall(String.format(text.replace("word 0;else", "word 0;if a=2then begin 1mark 6word 0;end;else"), ""), 3, 0);
        ending(words, 0, 2, 0, 4);
        ending(words, 1, 2, 1, 2);
        String second = "if me=1then any mark 0into a;any mark 0into b;tell 0-a;tell b;else begin 1mark 0word me;tell 4;end;";
        SendHall hand = Due.hall(second, 3, 0);
        Due.is("9: by TOLD of HAND 1", 2, () -> hand.endings(0));
        ending(hand, 0, 0, 0, 0, 0, 4, -62, 4);
        ending(hand, 1, 0, 0, 0, 0, 4, 2, 4);
    }

    private static void differs() {
        Due.holds("11: no ENDING is unlike", false, Due.hall("tell me;", 2, 0).differs());
        Due.holds("11: two", true, star("tell a;").differs());
        Due.holds("11: alike", false, star("tell 5;").differs());
        Due.holds("11: WORDS alone differ", false, star("if a=1then begin 1mark 5word 0;end;").differs());
        Due.holds("11: alike, with WORDS that differ", false, star("tell 5;if a=1then begin 1mark 5word 0;end;").differs());
        Due.holds("11: one is LOCKED", false, star("if a<3then tell 7;else wait 1mark 5into b;end;").differs());
        Due.holds("11: one is STOPPED", false, star("if a<3then tell 7;else tell 8;wait 0mark 5into b;end;").differs());
        Due.holds("11: two are WHOLE beside one that is LOCKED", true,
                star("if a<3then tell a;else wait 1mark 5into b;end;").differs());
        Due.holds("11: all are LOCKED", false, star("tell a;wait 1mark 5into b;").differs());
        Due.holds("11: the last HAND's differ", true, Due.hall("if me = 2 then any mark 0 into a; any mark 0 into b; tell a; else "
                + "begin 2 mark 0 word me; end;", 3, 0).differs());
    }

    // ---- COULD, NEEDS

    private static void could() {
        SendHall x = Due.hall("if me = 0 then any mark 0 into a; any mark 1 into b; else begin 0 mark 0 word 0; end;", 4, 0);
        Due.is("12: each", 14, () -> x.could(0, 1));
        Due.is("12: none", 0, () -> x.could(0, 2));
        for (int hand = 1; hand < 4; hand++) {
            int h = hand;
            Due.is("12: HAND " + h, 0, () -> x.could(h, 1));
        }
        for (int hand : new int[] {-1, 4, 8, Integer.MIN_VALUE, Integer.MAX_VALUE}) {
            Due.is("12: HAND " + hand, Due.ELEMENT, () -> x.could(hand, 1));
        }
        for (int step : new int[] {-1, 0, 3, 4, 40, Integer.MIN_VALUE, Integer.MAX_VALUE}) {
            Due.is("12: STEP " + step, Due.ELEMENT, () -> x.could(0, step));
        }
        x.world(2, 0, 0, 0);
        Due.is("12: with two HANDS", 2, () -> x.could(0, 1));
        Due.is("12: no third HAND", Due.ELEMENT, () -> x.could(2, 1));
        x.world(8, 0, 0, 0);
        Due.is("12: SPENT with eight", -1, () -> x.could(7, 1));
        Due.is("12: no ninth HAND", Due.ELEMENT, () -> x.could(8, 1));
        // By ROOM: who only lies behind can't be handed over.
        SendHall y = Due.hall("if me = 0 then any mark 0 into a; wait 2 mark 1 into b; any mark 0 into c; end; if me = 1 then "
                + "meet 0 mark 0 word 1; end; if me = 2 then wait 1 mark 3 into a; end;", 3, 0);
        Due.is("12: handed over", 2, () -> y.could(0, 1));
        Due.is("12: never comes there", 0, () -> y.could(0, 3));
        SendHall last = Due.hall("if me = 0 then begin 7 mark 0 word 1; end;" + "tell 1;".repeat(36)
                + "if me = 7 then any mark 0 into a; end;", 8, 0);
        Due.is("12: the last HAND at the last STEP", 1, () -> last.could(7, 39));
        Due.is("12: another HAND there", 0, () -> last.could(6, 39));
        SendHall z = Due.hall("if me = 0 then any mark 0 into a most 1; else begin 0 mark 0 word 1 long 2; end;", 3, 0);
        Due.is("12: too long, all the same taken", 6, () -> z.could(0, 1));
    }

    private static void needs() {
        for (int many = 0; many <= 5; many++) {
            String text = "send 1 - me mark 0 word 1;".repeat(many) + "wait 1 - me mark 0 into a;".repeat(many);
            int want = many <= 3 ? many : -1;
            for (int room = 0; room <= 3; room++) {
                SendHall x = Due.hall(text, 2, room);
                Due.is("13: each sends " + many, want, x::needs);
                Due.is("6: ROOM stays", room, () -> x.count(3));
                Due.is("9: the ENDINGS are by that ROOM", want == -1 || room < want ? 1 : 0, () -> x.endings(2));
            }
        }
        String ring = "send me+1-n*(me+1=n)mark 0word 1;wait me-1+n*(me=0)mark 0into a;";
        int[] want = {1, 1, 1, 1, -1};
        for (int n = 2; n <= 6; n++) {
            SendHall x = Due.hall(ring, n, 0);
            Due.is("8: LOCKED at once", 1, x::reached);
            Due.is("13: n is as it is: " + n, want[n - 2], x::needs);
            x.world(n, 1, 0, 0);
            Due.is("8: SPENT by ROOM 1: " + n, want[n - 2] < 0 ? 1 : 0, () -> x.reached() < 0 ? 1 : 0);
        }
        Due.is("13: STOPPED is not LOCKED", 0, () -> Due.hall("send n mark 0 word 1;", 2, 0).needs());
        Due.is("13: one of several ENDINGS is LOCKED", -1, () -> star("if a=1then wait 1mark 5into b;end;").needs());
        Due.is("13: SPENT by ROOM 0", -1, () -> Due.hall(FULL + "all;", 3, 3).needs());
        Due.is("13: SPENT by ROOM 3 alone, which isn't asked of", 0, () -> {
            SendHall x = Due.hall("if me=0then " + "send 1mark 0word 1;".repeat(7) + "end;if me=1then "
                    + "wait 0mark 0into a;".repeat(7) + "end;if me=2then " + "begin 0mark 1word 1;".repeat(12) + "end;", 3, 3);
            Due.is("8: by ROOM 3", -1, x::reached);
            return x.needs();
        });
    }

    // ---- CUT DOWN

    private static void lefts(SendHall x, String want) {
        for (int step = 0; step < want.length(); step++) {
            int s = step;
            Due.is("15: left(" + s + ") of " + want, want.charAt(s) - '0', () -> x.left(s) ? 1 : 0);
        }
        for (int step : new int[] {-1, want.length(), 40, 64, Integer.MIN_VALUE, Integer.MAX_VALUE}) {
            Due.is("15: left(" + step + ") of " + want, Due.ELEMENT, () -> x.left(step) ? 1 : 0);
        }
    }

    private static void cut(String text, int n, int room, int many, String want) {
        SendHall x = Due.hall(text, n, room);
        Due.is("14: cut() of " + text, many, x::cut);
        lefts(x, want);
    }

    private static void cuts() {
        cut("wait 1 - me mark 0 into a;", 2, 0, 1, "1");
        cut("wait 1 - me mark 0 into a;".repeat(2), 2, 0, 1, "01");
        cut("tell 1; set a 1; begin 1 - me mark 1 word 1; wait 1 - me mark 0 into a; tell 2;", 2, 0, 1, "00010");
        cut("set a 1; wait a - me mark 0 into b;", 2, 0, 2, "11");
        // Without the 'set' both STOPPED, which isn't LOCKED: it stays.
        cut("set a 1; tell 5; if me < a then wait 1 mark 0 into b; end;", 2, 0, 2, "1011");
        cut("if 1 then if 1 then end; end; wait 1 - me mark 0 into a;", 2, 0, 1, "111");
        cut("if 1 then tell 1; else wait 0 mark 0 into a; end; if me = 0 then all; end;", 2, 0, 1, "10011");
        cut("if me = 0 then begin 1 mark 0 word 1; done; else wait 0 mark 1 into a; wait 0 mark 0 into a; end;", 2, 0, 1, "10001");
        cut("if me = 0 then begin 1 mark 0 word 1; done; end;", 2, 0, 2, "111");
        cut("if me = 0 then all; else sum 1 into a; end;", 2, 0, 1, "101");
        cut("all;".repeat(39) + "wait 1-me mark 0into a;", 2, 0, 1, "0".repeat(39) + "1");
        // What names no other HAND does not STOP when it is left out.
        cut("if me = 0 then wait 1 mark 5 into a; end; send n * (me = 0) mark 0 word 1;", 3, 3, 1, "110");
        // A 'wait' whose WORD is left out locks: of three each one may go but not all.
        cut("if me = 0 then begin 1 mark 0 word 1; wait 1 mark 0 into a; else wait 0 mark 0 into a; begin 0 mark 0 word 1; end; "
                + "wait 1 - me mark 7 into a;", 2, 0, 1, "100001");
    }

    private static void cutByWorld() {
        String text = "send 1 - me mark 0 word 1; wait 1 - me mark 0 into a;";
        SendHall x = Due.hall(text, 2, 1);
        Due.is("14: none is LOCKED", -1, x::cut);
        Due.is("15: nothing is kept", Due.ELEMENT, () -> x.left(0) ? 1 : 0);
        x.world(2, 0, 0, 0);
        Due.is("14: LOCKED", 1, x::cut);
        lefts(x, "01");
        x.world(2, 1, 0, 0);
        Due.is("14: none", -1, x::cut);
        lefts(x, "01");
        x.world(8, 1, 0, 0);
        Due.is("14: STOPPED", -1, x::cut);
        lefts(x, "01");
        Due.is("3: a FAULT", 1, () -> Due.text(x, "foo"));
        lefts(x, "01");
        Due.is("3: refused", Due.ARGUMENT, () -> x.text(1));
        lefts(x, "01");
        Due.is("3: another TEXT", 0, () -> Due.text(x, FULL + "all; if me = 0 then wait 1 mark 9 into a; end;"));
        Due.is("15: another TEXT came since", Due.ELEMENT, () -> x.left(0) ? 1 : 0);
        x.world(3, 0, 0, 0);
        Due.is("14: SPENT", -1, x::cut);
        Due.is("15: nothing is kept", Due.ELEMENT, () -> x.left(0) ? 1 : 0);
        x.world(2, 0, 0, 0);
        Due.is("14: with two HANDS", 1, x::cut);
        Due.holds("15: it stays", true, x.left(14));
        x.world(3, 0, 0, 0);
        Due.is("14: SPENT", -1, x::cut);
        Due.holds("15: what was kept stays", true, x.left(14));
        Due.holds("15: what was left out, too", false, x.left(12));
        Due.is("15: no STEP", Due.ELEMENT, () -> x.left(15) ? 1 : 0);
        Due.is("3: the empty TEXT", 0, () -> x.text(0));
        Due.is("14: of no STEPS", -1, x::cut);
        Due.is("15: no STEP", Due.ELEMENT, () -> x.left(0) ? 1 : 0);
    }

    /** Without its first STEP the TEXT is SPENT, which counts as not LOCKED; cut() goes on with the next. */
    private static void cutBySpent() {
        SendHall x = Due.hall("wait 1 - me + (1 < me) * me mark 9 into a; " + FULL + "all; tell 1;", 3, 0);
        Due.is("8: all wait", 1, x::reached);
        Due.is("14: the 'wait' stays", 1, x::cut);
        lefts(x, "110000000000000");
        SendHall y = Due.hall("wait 1 - me + (1 < me) * me mark 9 into a; " + FULL + "if me = 0 then wait 1 mark 9 into a; end;", 3, 0);
        Due.is("14: 200 are not SPENT: it goes", 1, y::cut);
        lefts(y, "010000000000011");
    }

    // ---- the least n

    private static void least() {
        for (int n = 2; n <= 9; n++) {
            int want = n <= 8 ? n : -1;
            SendHall x = Due.hall("if " + (n - 1) + " < n then wait 1 - (me = 1) mark 0 into a; end;", 8, 3, 9, 9);
            for (int room = 0; room <= 3; room++) {
                int r = room;
                Due.is("20: from " + n + " on", want, () -> x.least(r));
            }
            Due.is("6: n stays", 8, () -> x.count(2));
            Due.is("6: ROOM stays", 3, () -> x.count(3));
        }
        Due.is("20: but 8", 8, () -> Due.hall("if n = 8 then all; else done; end; if n = 8 then if me = 0 then all; end; end;", 2, 0).least(0));
        for (int many = 1; many <= 4; many++) {
            SendHall x = Due.hall("send 1 - (me = 1) mark 0 word 1;".repeat(many) + "wait 1 - me mark 0 into a;".repeat(many), 2, 0);
            for (int room = 0; room <= 3; room++) {
                int r = room;
                Due.is("20: " + many + " by ROOM " + r, many > r ? 2 : -1, () -> x.least(r));
            }
        }
        SendHall any = Due.hall("if 0 then any mark 0 into a; end; wait 1 - me mark 0 into a;", 2, 0);
        SendHall none = new SendHall();
        for (int room : new int[] {-1, 4, 5, Integer.MIN_VALUE, Integer.MAX_VALUE}) {
            Due.is("20: ROOM " + room, Due.ARGUMENT, () -> none.least(room));
            Due.is("20: ROOM " + room + " with an 'any'", Due.ARGUMENT, () -> any.least(room));
        }
        for (int room = 0; room <= 3; room++) {
            int r = room;
            Due.is("20: the empty TEXT", -1, () -> none.least(r));
            Due.is("20: an 'any' STEP that none comes to", -2, () -> any.least(r));
        }
        Due.is("20: STOPPED is not LOCKED", -1, () -> Due.hall("wait n mark 0 into a;", 2, 0).least(0));
        Due.is("20: WHOLE is not LOCKED", -1, () -> Due.hall("all;", 2, 0).least(0));
    }

    private static void leastChangesNothing() {
        SendHall x = Due.hall("if me = 2 then wait 1 mark 0 into a; else done; tell 5; end;", 3, 1, 2, 3);
        Due.is("14: cut", 1, x::cut);
        Due.is("16: LOCKED", 2, () -> x.play(0, 0));
        String before = Due.told(x);
        Due.is("20: three", 3, () -> x.least(0));
        Due.same("20: least()", before, Due.told(x));
        Due.is("20: refused", Due.ARGUMENT, () -> x.least(4));
        Due.same("20: least()", before, Due.told(x));
        SendHall y = Due.hall("done;", 2, 0);
        Due.is("20: none", -1, () -> y.least(0));
        Due.is("17: least() is no PLAY of its own", Due.ELEMENT, () -> y.of(0, 0));
    }

    public static void main(String[] args) {
        firstValues();
        quietSteps();
        intsThatWrap();
        stops();
        begins();
        dones();
        rooms();
        meets();
        takes();
        sizes();
        together();
        partsOfAState();
        stoppedIsPartOfAState();
        stoppedForgetsItsMark();
        statesThatAreNearlyAlike();
        manyWords();
        foundAnew();
        twoHundred();
        twoHundredWithMore();
        kinds();
        whats();
        orders();
        ordersByBits();
        differs();
        could();
        needs();
        cuts();
        cutByWorld();
        cutBySpent();
        least();
        leastChangesNothing();
        Due.end("StateBoundsTest");
    }
}
