/** Promises 1 to 7: a new object, the tape, the TEXT and its FAULTS, the world, what is counted, the STEPS' kinds. */
public final class TextTest {
    private static void promise1() {
        SendHall x = new SendHall();
        int[] counts = {0, 0, 2, 0, 0, 0, 0};
        for (int what = 0; what < counts.length; what++) {
            int w = what;
            Due.is("1: count(" + w + ")", counts[w], () -> x.count(w));
        }
        Due.is("1: NONE", -1, SendHall.NONE);
        Due.is("1: fault()", -1, x::fault);
        Due.is("1: reached()", 1, x::reached);
        Due.is("1: endings(0)", 1, () -> x.endings(0));
        Due.is("1: endings(2)", 0, () -> x.endings(2));
        Due.is("1: needs()", 0, x::needs);
        Due.is("1: step(0)", Due.ELEMENT, () -> x.step(0));
        Due.is("1: left(0)", Due.ELEMENT, () -> x.left(0) ? 1 : 0);
        Due.is("1: of(0, 0)", Due.ELEMENT, () -> x.of(0, 0));
        Due.is("1: ring(-1)", Due.ELEMENT, () -> x.ring(-1));
        Due.is("1: chose(-1)", Due.ELEMENT, () -> x.chose(-1));
    }

    private static void promise2() {
        SendHall x = new SendHall();
        for (int i = 1; i <= 35; i++) {
            Due.is("2: feed", 20 * i, () -> x.feed(1, 2, 3, 4, 5));
        }
        Due.is("2: feed beyond 700", -1, () -> x.feed(1, 2, 3, 4, 5));
        Due.is("2: count(6)", 700, () -> x.count(6));
        Due.is("2: text(0)", 0, () -> x.text(0));
        Due.is("2: feed again", 20, () -> x.feed(0x74656C6C, 0x20393B80, -1, 0, 0));
        // tell 9; and then the bytes 128, 255: the highest byte of a number comes first.
        Due.is("2: text(7)", 0, () -> x.text(7));
        Due.is("2: step(0)", 9, () -> x.step(0));
        x.feed(0x74656C6C, 0x20393B80, -1, 0, 0);
        Due.is("2: text(8)", 1, () -> x.text(8));
        Due.is("2: fault()", 7, x::fault);
        x.feed(0x74656C6C, 0x20393B20, -1, 0, 0);
        Due.is("2: text(9)", 1, () -> x.text(9));
        Due.is("2: fault()", 8, x::fault);
    }

    private static void fine(String text) {
        SendHall x = new SendHall();
        Due.is("3: " + text, 0, () -> Due.text(x, text));
        Due.is("4: fault() of " + text, -1, x::fault);
    }

    private static void bad(String text, int code, int place) {
        SendHall x = new SendHall();
        Due.text(x, "all; tell 3;");
        Due.is("3: " + text, code, () -> Due.text(x, text));
        Due.is("4: fault() of " + text, place, x::fault);
        Due.is("3: the tape is empty behind " + text, 0, () -> x.count(6));
        Due.is("3: the TEXT ahead stays behind " + text, 2, () -> x.count(0));
    }

    private static void cannotStand() {
        bad("done", 1, 4);
        bad("done \n ", 1, 7);
        bad("done;;", 1, 5);
        bad("tell;", 1, 4);
        bad("tell", 1, 4);
        bad("foo;", 1, 0);
        bad("12345;", 1, 0);
        bad("else", 1, 0);
        bad("done; end;", 1, 6);
        bad("Done;", 1, 0);
        bad("\tdone;", 1, 0);
        bad("tella;", 1, 0);
        bad("tell 1a;", 1, 6);
        bad("tell a1;", 1, 6);
        bad("tell 1 2;", 1, 7);
        bad("tell 1 ++ 2;", 1, 8);
        bad("tell -1;", 1, 5);
        bad("tell 1);", 1, 6);
        bad("tell (1;", 1, 7);
        bad("tell ();", 1, 6);
        bad("tell 1 < 2 < 3;", 1, 11);
        bad("tell 1 < 2 = 3;", 1, 11);
        bad("set 1 1;", 1, 4);
        bad("set a = 1;", 1, 6);
        bad("set a;", 1, 5);
        bad("send 1 < 2 mark 0 word 1;", 1, 7);
        bad("send 1 word 0 mark 1;", 1, 7);
        bad("send 1 mark 0 word 1 most 3;", 1, 21);
        bad("send 1 mark 0 word 1 long a;", 1, 26);
        bad("wait 1 mark 0 into a long 3;", 1, 21);
        bad("any 1 mark 0 into a;", 1, 4);
        bad("sum 1 < 2 into a;", 1, 6);
        bad("meet 1 mark 0 < 1 word 1;", 1, 14);
        bad("begin 1 mark 0 word 1 = 1;", 1, 22);
        bad("wait 1 < 2 mark 0 into a;", 1, 7);
        bad("wait 1 mark 0 < 1 into a;", 1, 14);
        bad("any mark 0 = 0 into a;", 1, 11);
        bad("send 1 mark 0 word 1 long;", 1, 25);
        bad("any mark 0 into a most;", 1, 22);
        bad("any mark 0 into a most", 1, 22);
        bad("if 1 then else else end;", 1, 15);
        bad("if 1 then done; end", 1, 19);
        bad("if 1 then done;", 1, 15);
        bad("if 1 done; end;", 1, 5);
        bad("if 1 then foo; end;", 1, 10);
        bad("tell 1;" + (char) 233, 1, 7);
    }

    private static void tooMuch() {
        bad("tell 12345;", 2, 5);
        bad("tell 00001;", 2, 5);
        bad("tell 12345678901234567890;", 2, 5);
        bad("tell 1 + 10000 foo", 2, 9);
        bad("send 1 mark 0 word 1 long 0;", 2, 26);
        bad("send 1 mark 0 word 1 long 100;", 2, 26);
        bad("begin 1 mark 0 word 1 long 00001;", 2, 27);
        bad("any mark 0 into a most 0;", 2, 23);
        bad("wait 1 mark 0 into a most 9999;", 2, 26);
        fine("send 1 mark 0 word 1 long 99; meet 1 mark 0 word 1 long 0001; any mark 0 into a most 1;");
        fine("done;".repeat(40));
        bad("done;".repeat(41), 2, 200);
        bad("done;".repeat(40) + " foo;", 1, 201);
        bad("done;".repeat(40) + "if", 2, 200);
        fine("if 1 then " + "done;".repeat(39) + "end;");
        bad("if 1 then " + "done;".repeat(39) + "end; all;", 2, 210);
        bad("if 1 then " + "done;".repeat(40) + "end;", 2, 205);
        fine("if 1 then ".repeat(4) + "end; ".repeat(4));
        bad("if 1 then ".repeat(5) + "end; ".repeat(5), 2, 40);
        bad("if 1 then else ".repeat(4) + "if 1 then", 2, 60);
        fine("if 1 then end; ".repeat(6));
        fine("tell ((((((1))))));");
        bad("tell (((((((1)))))));", 2, 12);
        bad("tell (((((((foo", 2, 12);
        bad("tell (((((((mark", 2, 12);
        bad("tell (((((((12345", 2, 12);
        bad("tell ((((((((1))))))));", 2, 12);
        bad("tell (((((((", 1, 12);
        bad("tell (((((((+", 1, 12);
        bad("tell ((((((()", 1, 12);
        bad("wait 1 + (((((((me < 2))))))) mark 0 into a;", 2, 16);
        fine("tell ((((((1))))) + (2 + (3 < 4)));");
    }

    private static void noSuchName() {
        bad("tell foo;", 3, 5);
        bad("tell mmost;", 3, 5);
        bad("tell z;", 3, 5);
        bad("tell az;", 3, 5);
        bad("tell end;", 3, 5);
        bad("send mark 0 word 1;", 3, 5);
        bad("tell 1 + e;", 3, 9);
        bad("set e 1;", 3, 4);
        bad("set me 1;", 3, 4);
        bad("wait 0 mark 0 into from;", 3, 19);
        bad("sum 1 into n;", 3, 11);
        bad("if then then end;", 3, 3);
    }

    private static void promise3And4() {
        fine("");
        fine(" \n  ");
        fine("send 1-me mark 0 word me+5;wait 1-me mark 0 into a;tell a;");
        fine("if(a<b)then tell(1=2);else\nset d n*me/from-1;end;");
        fine("done; all; sum 1 + (2 < 3) into d; tell (1 < 2) < 3;");
        cannotStand();
        tooMuch();
        noSuchName();
        SendHall x = new SendHall();
        Due.is("3: text(1) of no tape", Due.ARGUMENT, () -> x.text(1));
        Due.feed(x, "tell foo;");
        Due.is("3: text(-1)", Due.ARGUMENT, () -> x.text(-1));
        Due.is("3: text(21)", Due.ARGUMENT, () -> x.text(21));
        Due.is("3: nothing changed", 20, () -> x.count(6));
        Due.is("3: text(9)", 3, () -> x.text(9));
        Due.is("4: fault()", 5, x::fault);
        Due.is("3: text(1)", Due.ARGUMENT, () -> x.text(1));
        Due.is("4: it stays", 5, x::fault);
        Due.feed(x, "tell foo;");
        Due.is("3: text(7)", 1, () -> x.text(4));
        Due.is("4: fault()", 4, x::fault);
        Due.is("3: text(0)", 0, () -> x.text(0));
        Due.is("4: none", -1, x::fault);
    }

    private static void expr(String expr, int value) {
        SendHall x = Due.hall("tell " + expr + ";", 3, 0);
        x.play(0, 0);
        Due.is("3: tell " + expr, value, () -> x.of(1, 3));
    }

    private static void exprs() {
        expr("2 + 3 * 4", 14);
        expr("(2 + 3) * 4", 20);
        expr("10 - 3 - 2", 5);
        expr("100 / 10 / 2", 5);
        expr("100 / (10 / 2)", 20);
        expr("2 * 3 + 4 * 5 - 6 / 4", 25);
        expr("7 / 2", 3);
        expr("(0 - 7) / 2", -3);
        expr("7 / (0 - 2)", -3);
        expr("5 / 0", 0);
        expr("(0 - 2048) * 1024 * 1024 / (0 - 1)", Integer.MIN_VALUE);
        expr("9999 * 9999 * 9999", 9999 * 9999 * 9999);
        expr("1 < 2", 1);
        expr("2 < 2", 0);
        expr("0 - 3 < 0 - 2", 1);
        expr("2 = 2", 1);
        expr("1 + 2 = 4 - 1", 1);
        expr("1 + 2 < 1 + 1", 0);
        expr("2 * (3 = 3) + 1", 3);
        expr("me * 100 + n * 10 + from", 130);
        expr("a + b + c + d", 0);
        expr("0007", 7);
    }

    private static void largeTexts() {
        SendHall x = new SendHall();
        String most = "tell 1" + "+1".repeat(346) + ";;";
        Due.is("3: 700 bytes", 1, () -> Due.text(x, most));
        Due.is("4: the last of them", 699, x::fault);
        for (int i = 0; i < 20; i++) {
            Due.is("3: 699 bytes, time and again", 0, () -> Due.text(x, most.substring(0, 699)));
            x.play(0, 0);
            Due.is("3: 347 ones", 347, () -> x.of(0, 3));
        }
        // Within each parenthesis a test, a sum and a product wait for what stands in the next.
        String deep = "0 < 1 + 2 * (".repeat(6) + "3" + ")".repeat(6);
        expr(deep, 1);
        expr("2 * (3 + 4 * (5 + 6 * (7 + 8 * (9 - 2 * (3 - 4 * (5 + 6))))))", 2 * (3 + 4 * (5 + 6 * (7 + 8 * (9 - 2 * (3 - 44))))));
    }

    private static void promise5() {
        SendHall x = new SendHall();
        Due.holds("5: most", true, x.world(8, 3, 99, 99));
        int[][] wrong = {{1, 0, 0, 0}, {9, 0, 0, 0}, {2, -1, 0, 0}, {2, 4, 0, 0}, {2, 0, -1, 0}, {2, 0, 100, 0},
            {2, 0, 0, -1}, {2, 0, 0, 100}, {Integer.MIN_VALUE, 0, 0, 0}, {2, Integer.MAX_VALUE, 0, 0}};
        for (int[] w : wrong) {
            Due.holds("5: wrong", false, x.world(w[0], w[1], w[2], w[3]));
        }
        int[] counts = {8, 3, 99, 99};
        for (int i = 0; i < 4; i++) {
            int k = i;
            Due.is("5: nothing changed", counts[k], () -> x.count(2 + k));
        }
        Due.holds("5: least", true, x.world(2, 0, 0, 0));
        Due.is("5: count(2)", 2, () -> x.count(2));
    }

    private static void promise6() {
        SendHall x = Due.hall("if 1 then any mark 0 into a; else any mark 1 into b; end; tell 1;", 5, 1, 7, 9);
        Due.feed(x, "tell 1;");
        int[] counts = {4, 2, 5, 1, 7, 9, 20};
        for (int what = 0; what < counts.length; what++) {
            int w = what;
            Due.is("6: count(" + w + ")", counts[w], () -> x.count(w));
        }
        Due.is("6: count(-1)", Due.ELEMENT, () -> x.count(-1));
        Due.is("6: count(7)", Due.ELEMENT, () -> x.count(7));
        Due.is("6: count(MIN)", Due.ELEMENT, () -> x.count(Integer.MIN_VALUE));
    }

    private static void promise7() {
        String text = "send 1 mark 0 word 0; meet 1 mark 0 word 0; begin 1 mark 0 word 0; wait 1 mark 0 into a; "
                + "any mark 0 into a; done; all; sum 1 into a; set a 1; tell 1; if 1 then all; else done; end; tell 2;";
        SendHall x = Due.hall(text, 2, 0);
        int[] kinds = {0, 1, 2, 3, 4, 5, 6, 7, 8, 9, 10, 6, 5, 9};
        for (int step = 0; step < kinds.length; step++) {
            int s = step;
            Due.is("7: step(" + s + ")", kinds[s], () -> x.step(s));
        }
        Due.is("7: step(14)", Due.ELEMENT, () -> x.step(14));
        Due.is("7: step(-1)", Due.ELEMENT, () -> x.step(-1));
        Due.is("7: step(MAX)", Due.ELEMENT, () -> x.step(Integer.MAX_VALUE));
    }

    public static void main(String[] args) {
        promise1();
        promise2();
        promise3And4();
        exprs();
        largeTexts();
        promise5();
        promise6();
        promise7();
        Due.end("TextTest");
    }
}
