/** The bounds that the document names in promises 1 to 7 and in the form of THE TEXT, on both sides of each. */
public final class TextBoundsTest {
    private static final String[] FULL = {
        "send 1 mark 2 word 3 long 4 ;", "meet 1 mark 2 word 3 long 4 ;", "begin 1 mark 2 word 3 long 4 ;",
        "wait 1 mark 2 into a most 4 ;", "any mark 2 into b most 4 ;", "done ;", "all ;", "sum 1 into c ;", "set d 1 ;",
        "tell 1 ;", "if 1 then tell 2 ; else tell 3 ; end ;"};

    /** A SUM or an EXPR stands in the place of the sign #. */
    private static final String[] SUMS = {
        "send # mark 2 word 3;", "send 1 mark # word 3;", "send 1 mark 2 word #;", "meet # mark 2 word 3;",
        "meet 1 mark # word 3;", "meet 1 mark 2 word #;", "begin # mark 2 word 3;", "begin 1 mark # word 3;",
        "begin 1 mark 2 word #;", "wait # mark 2 into a;", "wait 1 mark # into a;", "any mark # into a;", "sum # into a;"};
    private static final String[] EXPRS = {"set a #;", "tell #;", "if # then end;"};

    /** A VAR stands in the place of the sign #. */
    private static final String[] VARS = {
        "wait 1 mark 2 into #;", "any mark 2 into #;", "sum 1 into #;", "set # 1;", "wait 1 mark 2 into # most 3;"};

    private static final String[] WORDS = {
        "send", "meet", "begin", "wait", "any", "done", "all", "sum", "set", "tell", "if", "a", "b", "c", "d", "me", "n",
        "from", "mark", "word", "long", "into", "most", "then", "else", "end"};

    private static void fine(String text) {
        read(text, 0, -1);
    }

    private static void read(String text, int fault, int place) {
        SendHall x = new SendHall();
        String shown = text.replace("\n", "\\n");
        Due.is("3: text(" + shown + ")", fault, () -> Due.text(x, text));
        Due.is("4: fault() of " + shown, place, x::fault);
    }

    private static String[] both() {
        String[] all = new String[SUMS.length + EXPRS.length];
        System.arraycopy(SUMS, 0, all, 0, SUMS.length);
        System.arraycopy(EXPRS, 0, all, SUMS.length, EXPRS.length);
        return all;
    }

    /** Puts a row in the place of #, and reads it: place is counted from where it stands on; -1: it is right. */
    private static void put(String form, String row, int fault, int place) {
        read(form.replace("#", row), fault, place < 0 ? -1 : form.indexOf('#') + place);
    }

    // ---- promise 1

    private static void newObject() {
        SendHall x = new SendHall();
        int[] counts = {0, 0, 2, 0, 0, 0, 0};
        for (int what = 0; what < counts.length; what++) {
            int w = what;
            Due.is("1: count(" + w + ")", counts[w], () -> x.count(w));
        }
        Due.is("1: a TEXT that is empty is right", 0, () -> x.text(0));
        Due.is("1: it has no STEP", Due.ELEMENT, () -> x.step(0));
        Due.is("1: it is WHOLE at once", 0, () -> x.play(0, 0));
        for (int what : new int[] {0, 1, 3, 4, 5, 6, 8, 9, 10, 11}) {
            Due.is("1: of(1, " + what + ")", 0, () -> x.of(1, what));
        }
        Due.is("1: ENDED", -1, () -> x.of(1, 2));
        Due.is("1: no FAULT yet", -1, new SendHall()::fault);
        Due.is("1: no FAULT with the empty TEXT", -1, x::fault);
    }

    // ---- promise 2

    private static void eachByte() {
        for (int place = 0; place < 20; place++) {
            int[] row = {0x20202020, 0x20202020, 0x20202020, 0x20202020, 0x20202020};
            int shift = 24 - 8 * (place % 4);
            row[place / 4] = row[place / 4] & ~(255 << shift) | 255 << shift;
            SendHall x = new SendHall();
            Due.is("2: feed", 20, () -> x.feed(row[0], row[1], row[2], row[3], row[4]));
            Due.is("2: a byte 255 at " + place, 1, () -> x.text(20));
            Due.is("2: it stands at " + place, place, x::fault);
            x.feed(row[0], row[1], row[2], row[3], row[4]);
            int before = place;
            Due.is("2: the bytes ahead of " + place, 0, () -> x.text(before));
        }
    }

    private static void blanks(SendHall x, int rows) {
        for (int i = 0; i < rows; i++) {
            x.feed(0x20202020, 0x0A0A0A0A, 0x20202020, 0x0A0A0A0A, 0x20202020);
        }
    }

    private static void sevenHundred() {
        SendHall x = new SendHall();
        Due.feed(x, "tell 1;");
        blanks(x, 33);
        Due.is("2: 680", 680, () -> x.count(6));
        Due.is("2: 700 are not more than 700", 700, () -> x.feed(0x20202020, 0x20202020, 0x20202020, 0x20202020, 0x20202020));
        Due.is("2: more than 700", -1, () -> x.feed(-1, -1, -1, -1, -1));
        Due.is("2: none came", 700, () -> x.count(6));
        Due.is("2: once more", -1, () -> x.feed(-1, -1, -1, -1, -1));
        Due.is("2: what is there stays", 0, () -> x.text(700));
        Due.is("2: the one STEP", 1, () -> x.count(0));
        Due.is("2: from an empty tape on", 20, () -> x.feed(0x74656C6C, 0x20313B20, 0x74656C6C, 0x20313B20, 0x20202020));
        Due.is("3: two STEPS", 0, () -> x.text(20));
        Due.is("6: two STEPS", 2, () -> x.count(0));
        x.feed(-1, -1, -1, -1, -1);
        Due.is("3: a FAULT", 1, () -> x.text(20));
        Due.is("2: the tape is empty with a FAULT, too", 20, () -> x.feed(0x74656C6C, 0x20313B20, 0x20202020, 0x20202020, 0x20202020));
        Due.is("3: more than it has", Due.ARGUMENT, () -> x.text(21));
        Due.is("2: behind what a refused text() left", 40, () -> x.feed(0x74656C6C, 0x20313B20, 0x20202020, 0x20202020, 0x20202020));
        Due.is("3: both", 0, () -> x.text(40));
        Due.is("6: both", 2, () -> x.count(0));
    }

    // ---- promise 3 and 4

    private static void firstBytes() {
        // A word that is cut is another word, which can't stand where a STEP begins; else the TEXT ends too soon.
        int[] places = {-1, 0, 0, 0, 4, 5, 6, 7, 8, 9, -1, 10, 10, 13, -1};
        for (int n = 0; n < places.length; n++) {
            SendHall x = new SendHall();
            Due.feed(x, "tell 1234;all;");
            int many = n;
            Due.is("3: the first " + n, places[n] < 0 ? 0 : 1, () -> x.text(many));
            Due.is("4: of the first " + n, places[n], x::fault);
            Due.is("3: the tape is empty", 0, () -> x.count(6));
            Due.is("3: and has no byte", Due.ARGUMENT, () -> x.text(1));
            Due.is("3: but none", 0, () -> x.text(0));
        }
        SendHall y = new SendHall();
        Due.feed(y, "tell 12345;");
        Due.is("3: cut to four digits", 1, () -> y.text(9));
        Due.is("4: it ends too soon", 9, y::fault);
        Due.feed(y, "tell 12345;");
        Due.is("3: five digits", 2, () -> y.text(10));
        Due.is("4: the NUMBER", 5, y::fault);
    }

    private static SendHall busy() {
        SendHall x = Due.hall("if me = 0 then any mark 0 into a; tell a; wait 1 mark 7 into b; else begin 0 mark 0 word me; end;",
                3, 1, 2, 3);
        Due.is("14: cut", 1, x::cut);
        Due.is("16: play", 2, () -> x.play(1, 2));
        return x;
    }

    private static void refusedTexts() {
        for (int n : new int[] {-1, -700, Integer.MIN_VALUE, 41, 700, 701, Integer.MAX_VALUE}) {
            SendHall x = busy();
            Due.feed(x, "tell foo; tell 1; tell 2;");
            String before = Due.told(x);
            Due.is("3: text(" + n + ") of 40", Due.ARGUMENT, () -> x.text(n));
            Due.same("3: text(" + n + ")", before, Due.told(x));
            Due.is("3: the tape stays", 40, () -> x.count(6));
            Due.is("4: no FAULT", -1, x::fault);
            Due.is("3: its bytes stay", 3, () -> x.text(40));
            Due.is("4: the FAULT", 5, x::fault);
            Due.is("3: refused again", Due.ARGUMENT, () -> x.text(n));
            Due.is("4: the FAULT stays", 5, x::fault);
        }
        SendHall full = new SendHall();
        blanks(full, 35);
        Due.is("3: text(701) of 700", Due.ARGUMENT, () -> full.text(701));
        Due.is("3: text(700) of 700", 0, () -> full.text(700));
        SendHall none = new SendHall();
        Due.is("3: text(1) of none", Due.ARGUMENT, () -> none.text(1));
        Due.is("3: text(0) of none", 0, () -> none.text(0));
    }

    private static void faultsKeepTheText() {
        for (String bad : new String[] {"done", "tell 12345;", "set e 1;", "all; all; all; foo"}) {
            SendHall x = busy();
            String before = Due.told(x);
            Due.is("3: a FAULT", 1, () -> Due.text(x, bad) > 0 ? 1 : 0);
            Due.same("3: the TEXT ahead stays: " + bad, before, Due.told(x));
            Due.is("3: the tape is empty", 0, () -> x.count(6));
        }
        SendHall x = busy();
        Due.is("3: another TEXT", 0, () -> Due.text(x, "all;"));
        Due.is("6: its STEPS", 1, () -> x.count(0));
        Due.is("6: its 'any' STEPS", 0, () -> x.count(1));
        Due.is("6: n stays", 3, () -> x.count(2));
        Due.is("6: ROOM stays", 1, () -> x.count(3));
        Due.is("8: its STATES", 2, x::reached);
        Due.is("15: nothing is kept", Due.ELEMENT, () -> x.left(0) ? 1 : 0);
        Due.is("17: no PLAY", Due.ELEMENT, () -> x.of(0, 0));
        Due.is("3: a FAULT", 1, () -> Due.text(x, "foo"));
        Due.is("4: it is there", 0, x::fault);
        Due.is("3: none", 0, () -> Due.text(x, "all;"));
        Due.is("4: NONE without", -1, x::fault);
    }

    /** Nothing of a TEXT with a FAULT, however deep it stands, is left when the next one is read. */
    private static void readAnew() {
        String[] bad = {"tell ((((((", "tell ((((((1))))", "tell 1 < 2 <", "set a (1 < 2 <", "if 1 then if 1 then if 1 then if 1 then foo",
            "if 1 then else if 1 then else", "any mark 0 into a; any mark 0 into e;", "all;".repeat(41), "send 1 mark (((1 word",
            "wait 1 mark 0 into a most 100;", "tell 1 + 2 * (3 - 4 * (5 +"};
        String good = "if 1 then if 1 then if 1 then if 1 then any mark ((((((1)))))) into a; end; else any mark 2 into b; end; end; end; "
                + "tell 1 < ((((((2))))));";
        SendHall x = new SendHall();
        for (String text : bad) {
            int fault = Due.text(x, text);
            int place = x.fault();
            Due.is("3: a FAULT of " + text, 1, fault > 0 ? 1 : 0);
            Due.is("3: " + text + ", and then what is right", 0, () -> Due.text(x, good));
            Due.is("4: none behind " + text, -1, x::fault);
            Due.is("6: STEPS behind " + text, 7, () -> x.count(0));
            Due.is("6: 'any' STEPS behind " + text, 2, () -> x.count(1));
            Due.is("3: " + text + " once more", fault, () -> Due.text(x, text));
            Due.is("4: of " + text + " once more", place, x::fault);
            Due.is("3: twice " + text, fault, () -> Due.text(x, text));
            Due.is("6: STEPS ahead of " + text, 7, () -> x.count(0));
            Due.is("6: 'any' STEPS ahead of " + text, 2, () -> x.count(1));
            Due.is("3: an empty one", 0, () -> x.text(0));
            Due.is("6: no STEPS", 0, () -> x.count(0));
            Due.is("6: no 'any' STEPS", 0, () -> x.count(1));
        }
    }

    private static void longestTexts() {
        String most = "tell 1" + "+1".repeat(346) + "; ";
        SendHall x = new SendHall();
        Due.is("3: 700 bytes", 0, () -> Due.text(x, most));
        x.play(0, 0);
        Due.is("3: all 347 ones", 347, () -> x.of(0, 3));
        read("tell 1" + "+1".repeat(347), 1, 700);
        read(most.substring(0, 699) + ";", 1, 699);
        read(most.substring(0, 699) + "z", 1, 699);
        read(" ".repeat(700), 0, -1);
        read(" ".repeat(699) + "#", 1, 699);
        read("a".repeat(700), 1, 0);
        read("tell " + "a".repeat(695), 3, 5);
        read("tell " + "1".repeat(695), 2, 5);
        read("tell 1" + " ".repeat(694), 1, 700);
    }

    // ---- TOKENS

    private static void eachSign() {
        for (int sign = 0; sign < 256; sign++) {
            char c = (char) sign;
            boolean blank = c == ' ' || c == '\n';
            boolean digit = c >= '0' && c <= '9';
            boolean joins = "+-*/<=".indexOf(c) >= 0;
            int place = blank || digit ? -1 : joins || c == ';' ? 7 : 6;
            read("tell 1" + c + ";", place < 0 ? 0 : 1, place);
            read(c + "done;", blank ? 0 : 1, blank ? -1 : 0);
            read("done" + c + ";", blank ? 0 : 1, blank ? -1 : c >= 'a' && c <= 'z' ? 0 : c == ';' ? 5 : 4);
            boolean value = "abcdn".indexOf(c) >= 0 && sign > 0;
            boolean letter = c >= 'a' && c <= 'z';
            int code = digit || value ? 0 : letter ? 3 : 1;
            int at = code == 0 ? -1 : blank || c == '(' ? 6 : 5;
            read("tell " + c + ";", code, at);
        }
    }

    private static void longestRows() {
        read("tella;", 1, 0);
        read("donedone;", 1, 0);
        fine("done;done;");
        read("done done;", 1, 5);
        read("do ne;", 1, 0);
        read("tell me1;", 1, 7);
        fine("tell me*1;");
        read("tell 1me;", 1, 6);
        read("tell 12 34;", 1, 8);
        fine("tell 1234;");
        read("tell mme;", 3, 5);
        read("tell m e;", 3, 5);
        fine("\n tell\n\n1 \n;\n ");
        fine("tell(1);");
        fine("set a(1);if(1)then end;");
        fine("send(1)mark(2)word(3)long 4;");
        fine("wait 1mark 2into a most 3;");
        read("waitme mark 2 into a;", 1, 0);
    }

    private static void numbers() {
        for (String number : new String[] {"0", "9", "00", "10", "99", "000", "100", "999", "0000", "0001", "1000", "9999"}) {
            for (String form : both()) {
                put(form, number, 0, -1);
            }
            SendHall x = Due.hall("tell " + number + ";", 2, 0);
            x.play(0, 0);
            Due.is("3: tell " + number, Integer.parseInt(number), () -> x.of(0, 3));
        }
        for (String number : new String[] {"00000", "00001", "10000", "99999", "123456", "2147483648", "99999999999999999999"}) {
            for (String form : both()) {
                put(form, number, 2, 0);
                put(form, "1 + " + number, 2, 4);
                put(form, "(" + number + ")", 2, 1);
            }
        }
        read("12345;", 1, 0);
        read("done 12345;", 1, 5);
        read("any 12345 mark 0 into a;", 1, 4);
        read("tell 1 12345;", 1, 7);
        read("set 12345 1;", 1, 4);
        read("wait 1 mark 2 into 12345;", 1, 19);
        read("if 1 12345 then end;", 1, 5);
    }

    // ---- the form of a STEP

    private static String joined(String[] tokens, int many) {
        return String.join(" ", java.util.Arrays.copyOf(tokens, many));
    }

    private static void eachToken() {
        for (String text : FULL) {
            fine(text);
            fine(text + text);
            String[] tokens = text.split(" ");
            for (int i = 0; i < tokens.length; i++) {
                String ahead = joined(tokens, i) + (i == 0 ? "" : " ");
                if (i > 0) {
                    // It ends too soon, with blanks behind it, too.
                    read(joined(tokens, i), 1, ahead.length() - 1);
                    read(ahead + "\n", 1, ahead.length() + 1);
                }
                String behind = text.substring(ahead.length());
                for (String none : new String[] {"#", "!", "A", "" + (char) 127, "" + (char) 200, ")", "{", "`"}) {
                    read(ahead + none + " " + behind, 1, ahead.length());
                }
            }
        }
        fine(String.join("", FULL));
        fine("");
    }

    /** What may be left away, and what then can't stand. */
    private static void optional() {
        for (String kind : new String[] {"send", "meet", "begin"}) {
            fine(kind + " 1 mark 2 word 3;");
            read(kind + " 1 mark 2 word 3 most 4;", 1, kind.length() + 17);
            read(kind + " 1 mark 2 word 3 long 4 long 4;", 1, kind.length() + 24);
            read(kind + " 1 mark 2 long 4 word 3;", 1, kind.length() + 10);
        }
        fine("wait 1 mark 2 into a;");
        fine("any mark 2 into a;");
        read("wait 1 mark 2 into a long 4;", 1, 21);
        read("any mark 2 into a long 4;", 1, 18);
        read("any mark 2 into a most 4 most 4;", 1, 25);
        read("wait mark 2 into a;", 3, 5);
        read("any 1 mark 2 into a;", 1, 4);
        read("done 1;", 1, 5);
        read("all 1;", 1, 4);
        read("sum into a;", 3, 4);
        read("set a;", 1, 5);
        read("tell;", 1, 4);
        fine("if 1 then end;");
        fine("if 1 then else end;");
        fine("if 1 then tell 1; end;");
        fine("if 1 then else tell 1; end;");
        read("if 1 else end;", 1, 5);
        read("if 1 then else tell 1; else end;", 1, 23);
        read("if then end;", 3, 3);
        read("else", 1, 0);
        read("end;", 1, 0);
        read("if 1 then end; end;", 1, 15);
        read("if 1 then end; else end;", 1, 15);
        read("if 1 then if 1 then end; end", 1, 28);
        read("if 1 then if 1 then end;", 1, 24);
        read(";", 1, 0);
    }

    private static void sizes() {
        String[][] forms = {{"send 1 mark 2 word 3 long ", ";"}, {"meet 1 mark 2 word 3 long ", ";"},
            {"begin 1 mark 2 word 3 long ", ";"}, {"wait 1 mark 2 into a most ", ";"}, {"any mark 2 into a most ", ";"}};
        for (String[] form : forms) {
            int place = form[0].length();
            for (String right : new String[] {"1", "01", "001", "0001", "2", "50", "98", "99", "0099"}) {
                fine(form[0] + right + form[1]);
            }
            for (String much : new String[] {"0", "00", "0000", "100", "0100", "101", "999", "9999", "00001", "00099", "10000"}) {
                read(form[0] + much + form[1], 2, place);
            }
            for (String none : new String[] {"-1", "(1)", "me", "a", "long", "most", "foo", "+1", ";", "#"}) {
                read(form[0] + none + form[1], 1, place);
            }
            read(form[0] + "1 + 1" + form[1], 1, place + 2);
            read(form[0] + "1 1" + form[1], 1, place + 2);
            read(form[0].trim(), 1, place - 1);
        }
    }

    // ---- how much a TEXT may have

    private static void fortySteps() {
        String forty = "all;".repeat(40);
        fine(forty);
        for (String text : FULL) {
            String first = text.substring(0, text.indexOf(' '));
            read(forty + first, 2, 160);
            read(forty + text, 2, 160);
            read(forty + first + "x", 1, 160);
            read("all;".repeat(39) + first + "x", 1, 156);
        }
        for (String none : new String[] {"foo", "else", "end", "then", "a", "1", "12345", ";", "(", "#"}) {
            read(forty + none, 1, 160);
        }
        read("all;".repeat(39) + "if 1 then end; all;", 2, 171);
        fine("all;".repeat(38) + "if 1 then end; all;");
        fine("if 1 then " + "all;".repeat(20) + "else " + "all;".repeat(19) + "end;");
        read("if 1 then " + "all;".repeat(20) + "else " + "all;".repeat(20) + "end;", 2, 171);
        read("if 1 then " + "all;".repeat(20) + "else " + "all;".repeat(19) + "end; all;", 2, 176);
        read("if 1 then " + "all;".repeat(20) + "else " + "all;".repeat(19) + "if", 2, 171);
        fine("if 1 then if 1 then " + "all;".repeat(38) + "end; end;");
        read("if 1 then if 1 then " + "all;".repeat(39) + "end; end;", 2, 172);
        SendHall x = Due.hall(forty, 2, 0);
        Due.is("6: 40 STEPS", 40, () -> x.count(0));
        Due.is("7: the last of 40", 6, () -> x.step(39));
        Due.is("7: behind the last of 40", Due.ELEMENT, () -> x.step(40));
        Due.is("3: 41", 2, () -> Due.text(x, forty + "all;"));
        Due.is("3: 40 once more", 0, () -> Due.text(x, forty));
    }

    private static void fourIfs() {
        String then = "if 1 then ";
        String other = "if 0 then else ";
        for (int which = 0; which < 16; which++) {
            StringBuilder b = new StringBuilder();
            for (int i = 0; i < 4; i++) {
                b.append((which >> i & 1) == 0 ? then : other);
            }
            String open = b.toString();
            fine(open + "end;".repeat(4));
            fine(open + "tell 1;" + "end;".repeat(4));
            read(open + "if", 2, open.length());
            read(open + then + "end;".repeat(5), 2, open.length());
            read(open + "tell 1; if", 2, open.length() + 8);
            read(open + "else if", (which >> 3 & 1) == 0 ? 2 : 1, open.length() + ((which >> 3 & 1) == 0 ? 5 : 0));
        }
        // As soon as one is whole, another has its place.
        fine(then.repeat(4) + "end; " + then + "end; else " + then + "end;" + "end; end; end;");
        fine((then.repeat(4) + "end;".repeat(4)).repeat(2));
        read(then.repeat(4) + "iff", 1, 40);
    }

    private static void parentheses() {
        for (String form : both()) {
            put(form, "((((((1))))))", 0, -1);
            put(form, "((((((me))))))", 0, -1);
            put(form, "1 + ((((((1 < 2)))))) * ((((((1 = 2))))))", 0, -1);
            put(form, "(((((((1)))))))", 2, 7);
            put(form, "((((((1 + (1)))))))", 2, 11);
            put(form, "1+(((((((1)))))))", 2, 9);
            put(form, "((((((1))))))+(((((((1)))))))", 2, 21);
            put(form, "((((((((1))))))))", 2, 7);
            for (String first : new String[] {"0", "9999", "12345", "a", "me", "from", "e", "foo", "mark", "end", "("}) {
                put(form, "(((((((" + first, 2, 7);
            }
            for (String none : new String[] {")", "+", "-", "*", "/", "<", "=", ";", "#", "A"}) {
                put(form, "(((((((" + none, 1, 7);
            }
            read(form.substring(0, form.indexOf('#')) + "(((((((", 1, form.indexOf('#') + 7);
            read(form.substring(0, form.indexOf('#')) + "((((((1))))) ", 1, form.indexOf('#') + 13);
            put(form, "(1", 1, 2 + (form.endsWith("#;") || form.indexOf(" ", form.indexOf('#')) < 0 ? 0 : 1));
        }
    }

    // ---- what can't stand in an EXPR

    private static void comparisons() {
        for (String form : SUMS) {
            put(form, "1 < 2", 1, 2);
            put(form, "1 = 2", 1, 2);
            put(form, "1 + 2 < 3", 1, 6);
            put(form, "(1 < 2)", 0, -1);
            put(form, "(1 = 2) + (3 < 4)", 0, -1);
            put(form, "(1 = 2) < 3", 1, 8);
        }
        for (String form : EXPRS) {
            put(form, "1 < 2", 0, -1);
            put(form, "1 = 2", 0, -1);
            put(form, "1 < 2 < 3", 1, 6);
            put(form, "1 = 2 = 3", 1, 6);
            put(form, "1 < 2 = 3", 1, 6);
            put(form, "1 = 2 < 3", 1, 6);
            put(form, "1 < 2 + 3 * 4 < 5", 1, 14);
            put(form, "1 < (2 < 3)", 0, -1);
            put(form, "(1 < 2) < (2 < 3)", 0, -1);
            put(form, "(1 < 2 < 3)", 1, 7);
            put(form, "((1 < 2) < 3) < 4", 0, -1);
            put(form, "1 < 2 + (3 < 4) + 5", 0, -1);
            put(form, "1 < (2) < 3", 1, 8);
        }
    }

    private static void missingParts() {
        for (String form : both()) {
            for (String joint : new String[] {"+", "-", "*", "/"}) {
                put(form, joint + "1", 1, 0);
                put(form, "1" + joint + joint + "1", 1, 2);
                put(form, "(1" + joint + ")", 1, 3);
                put(form, "1" + joint + "mark", 3, 2);
            }
            put(form, "()", 1, 1);
            put(form, "1)", 1, 1);
            put(form, "(1))", 1, 3);
            put(form, "1 2", 1, 2);
            put(form, "1 a", 1, 2);
            put(form, "(1 2)", 1, 3);
            put(form, "1 (2)", 1, 2);
            put(form, "(1)(2)", 1, 3);
        }
    }

    // ---- FAULT 3

    private static void noVar() {
        for (String form : VARS) {
            for (String name : new String[] {"a", "b", "c", "d"}) {
                put(form, name, 0, -1);
            }
            for (String word : WORDS) {
                boolean isVar = word.length() == 1 && word.compareTo("d") <= 0;
                put(form, word, isVar ? 0 : 3, isVar ? -1 : 0);
            }
            for (String name : new String[] {"e", "z", "aa", "ab", "foo", "abcdefghijklmnopqrstuvwxyz"}) {
                put(form, name, 3, 0);
            }
            for (String none : new String[] {"1", "12345", "(", "(a)", "+", ";", "<", "#", "A"}) {
                put(form, none, 1, 0);
            }
            read(form.substring(0, form.indexOf('#')), 1, form.indexOf('#'));
        }
    }

    private static void noValue() {
        for (String form : both()) {
            for (int i = 0; i < WORDS.length; i++) {
                boolean isValue = i >= 11 && i <= 17;
                put(form, WORDS[i], isValue ? 0 : 3, isValue ? -1 : 0);
                put(form, "1 + " + WORDS[i], isValue ? 0 : 3, isValue ? -1 : 4);
                put(form, "(" + WORDS[i] + ")", isValue ? 0 : 3, isValue ? -1 : 1);
            }
            for (String word : new String[] {"e", "z", "mm", "m", "nn", "froma", "fro", "mee", "aa", "foo"}) {
                put(form, word, 3, 0);
            }
        }
    }

    private static void firstAlongTheText() {
        read("tell 12345; set e 1; foo", 2, 5);
        read("set e 1; tell 12345; foo", 3, 4);
        read("foo; tell 12345; set e 1;", 1, 0);
        read("tell e + 12345;", 3, 5);
        read("tell 12345 + e;", 2, 5);
        read("tell 1 + # + e;", 1, 9);
        read("if e then " + "all;".repeat(50), 3, 3);
        read("all;".repeat(41) + "foo", 2, 160);
        read("all;".repeat(40) + "foo;" + "all;", 1, 160);
        read("if 1 then tell (((((((1; foo", 2, 22);
        read("send e mark 1 word 1 long 100;", 3, 5);
        read("send 1 mark 1 word 1 long 100", 2, 26);
    }

    // ---- promises 5 to 7

    private static void worlds() {
        int[][] bounds = {{2, 8}, {0, 3}, {0, 99}, {0, 99}};
        for (int which = 0; which < 4; which++) {
            for (int value : new int[] {bounds[which][0], bounds[which][1]}) {
                SendHall x = new SendHall();
                int[] row = {3, 1, 5, 6};
                row[which] = value;
                Due.holds("5: " + which + " is " + value, true, x.world(row[0], row[1], row[2], row[3]));
                for (int what = 0; what < 4; what++) {
                    int w = what;
                    Due.is("6: count(" + (2 + w) + ")", row[w], () -> x.count(2 + w));
                }
            }
            int[] wrong = {bounds[which][0] - 1, bounds[which][1] + 1, Integer.MIN_VALUE, Integer.MAX_VALUE, 256 + bounds[which][1]};
            for (int value : wrong) {
                SendHall x = busy();
                String before = Due.told(x);
                int[] row = {2, 3, 7, 8};
                row[which] = value;
                Due.holds("5: " + which + " is no " + value, false, x.world(row[0], row[1], row[2], row[3]));
                Due.same("5: world()", before, Due.told(x));
            }
        }
    }

    private static void counts() {
        SendHall x = new SendHall();
        Due.feed(x, "any mark 0 into a; if 1 then any mark 0 into a; else any mark 0 into a; end;");
        Due.is("6: bytes of the tape", 80, () -> x.count(6));
        Due.is("6: no STEPS yet", 0, () -> x.count(0));
        Due.is("3: text", 0, () -> x.text(76));
        Due.is("6: STEPS", 4, () -> x.count(0));
        Due.is("6: 'any' STEPS", 3, () -> x.count(1));
        Due.is("6: no bytes", 0, () -> x.count(6));
        for (int what : new int[] {-1, 7, 8, 100, Integer.MIN_VALUE, Integer.MAX_VALUE}) {
            Due.is("6: count(" + what + ")", Due.ELEMENT, () -> x.count(what));
        }
    }

    private static void kinds() {
        for (int kind = 0; kind < FULL.length; kind++) {
            SendHall x = Due.hall(FULL[kind], 2, 0);
            Due.is("7: " + FULL[kind], kind, () -> x.step(0));
            int steps = kind == 10 ? 3 : 1;
            Due.is("7: the last", kind == 10 ? 9 : kind, () -> x.step(steps - 1));
            for (int step : new int[] {-1, steps, 39, 40, Integer.MIN_VALUE, Integer.MAX_VALUE}) {
                Due.is("7: step(" + step + ")", Due.ELEMENT, () -> x.step(step));
            }
        }
        SendHall x = Due.hall("all; all; all;", 2, 0);
        Due.is("3: shorter", 0, () -> Due.text(x, "done;"));
        Due.is("7: what was there is no STEP any more", Due.ELEMENT, () -> x.step(1));
        Due.is("3: empty", 0, () -> x.text(0));
        Due.is("7: none", Due.ELEMENT, () -> x.step(0));
    }

    public static void main(String[] args) {
        newObject();
        eachByte();
        sevenHundred();
        firstBytes();
        refusedTexts();
        faultsKeepTheText();
        readAnew();
        longestTexts();
        eachSign();
        longestRows();
        numbers();
        eachToken();
        optional();
        sizes();
        fortySteps();
        fourIfs();
        parentheses();
        comparisons();
        missingParts();
        noVar();
        noValue();
        firstAlongTheText();
        worlds();
        counts();
        kinds();
        Due.end("TextBoundsTest");
    }
}
