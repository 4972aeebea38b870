import java.util.ArrayList;
import java.util.List;

/** Compares SendHall with NaiveHall, call by call, by many texts that a counted row of numbers makes. */
public final class CompareTest {
    private static long seed = 20261118;

    private static int pick(int many) {
        seed = seed * 6364136223846793005L + 1442695040888963407L;
        return (int) ((seed >>> 33) % many);
    }

    private static String one(String... of) {
        return of[pick(of.length)];
    }

    // ---- texts

    private static String value(int depth) {
        switch (pick(depth > 3 ? 4 : 6)) {
            case 0:
            case 1:
                return Integer.toString(pick(pick(9) == 0 ? 10000 : 4));
            case 2:
                return one("a", "b", "c", "d", "me", "n", "from");
            case 3:
                return one("me", "a");
            default:
                return "(" + expr(depth + 1) + ")";
        }
    }

    private static String sum(int depth) {
        StringBuilder b = new StringBuilder(value(depth));
        while (pick(3) == 0) {
            b.append(' ').append(one("+", "-", "*", "/", "+", "-")).append(' ').append(value(depth));
        }
        return b.toString();
    }

    private static String expr(int depth) {
        return pick(3) == 0 ? sum(depth) + one("<", "=") + sum(depth) : sum(depth);
    }

    /** A HAND that mostly is another one. */
    private static String other() {
        switch (pick(8)) {
            case 0:
                return sum(2);
            case 1:
                return "0";
            case 2:
                return "1";
            case 3:
                return "1 - me";
            case 4:
                return "me - 1 + n * (me = 0)";
            case 5:
                return "from";
            default:
                return "me + 1 - n * (me + 1 = n)";
        }
    }

    private static String mark() {
        return pick(6) == 0 ? sum(2) : one("0", "0", "0", "1", "2");
    }

    private static String step(int ifs, int[] left) {
        left[0]--;
        switch (pick(14)) {
            case 0:
            case 1:
                return "send " + other() + " mark " + mark() + " word " + sum(1) + size("long") + ";";
            case 2:
                return "meet " + other() + " mark " + mark() + " word " + sum(1) + size("long") + ";";
            case 3:
                return "begin " + other() + " mark " + mark() + " word " + sum(1) + size("long") + ";";
            case 4:
            case 5:
                return "wait " + other() + " mark " + mark() + " into " + one("a", "b", "c", "d") + size("most") + ";";
            case 6:
                return "any mark " + mark() + " into " + one("a", "b", "c", "d") + size("most") + ";";
            case 7:
                return one("done;", "all;", "sum " + sum(1) + " into " + one("a", "b") + ";");
            case 8:
                return "set " + one("a", "b", "c", "d") + " " + expr(0) + ";";
            case 9:
            case 10:
                return "tell " + expr(0) + ";";
            default:
                return fork(ifs, left);
        }
    }

    private static String fork(int ifs, int[] left) {
        if (ifs >= 4) {
            return "tell from;";
        }
        String test = pick(3) == 0 ? expr(0) : one("me = 0", "me < 2", "0 < me", "me = 1", "a < b", "from = 1");
        String b = "if " + test + " then " + list(ifs + 1, pick(4), left);
        if (pick(2) == 0) {
            b += "else " + list(ifs + 1, pick(4), left);
        }
        return b + "end;";
    }

    private static String size(String word) {
        return pick(8) == 0 ? " " + word + " " + (1 + pick(pick(3) == 0 ? 99 : 4)) : "";
    }

    private static String list(int ifs, int many, int[] left) {
        StringBuilder b = new StringBuilder();
        for (int i = 0; i < many && left[0] > 0; i++) {
            b.append(step(ifs, left)).append(one(" ", "", "\n", "  "));
        }
        return b.toString();
    }

    /** Texts of which it is known that they move: each STEP that tells has one that hears. */
    private static String talk() {
        switch (pick(6)) {
            case 0:
                return "if me = 0 then " + "any mark 0 into a; tell a; ".repeat(1 + pick(4)) + "else "
                        + one("send", "meet", "begin") + " 0 mark 0 word me * " + pick(9) + "; "
                        + one("", "done; ", "wait 0 mark 1 into b; ") + "end; " + list(0, pick(3), new int[] {3});
            case 1:
                return "set b me + 1 - n * (me + 1 = n); set c me - 1 + n * (me = 0); "
                        + one("send", "begin") + " b mark 0 word me; " + list(0, pick(2), new int[] {2})
                        + "wait c mark 0 into a; tell a; " + one("all; ", "done; ", "sum a into d; tell d; ", "");
            case 2:
                return "if me = n - 1 then set d me; else send n - 1 mark me word me + 7; end; "
                        + "if me = n - 1 then if 0 < d then any mark d - 1 into a; tell a; end; "
                        + "any mark " + pick(3) + " into b; tell b; end;";
            case 3:
                return "if me < 2 then " + "begin 1 - me mark 0 word me + 1 long 3; ".repeat(1 + pick(3))
                        + "wait 1 - me mark 0 into a most " + (1 + pick(5)) + "; done; tell a; else "
                        + list(1, pick(3), new int[] {3}) + "end;";
            case 4:
                return "if 0 < me then " + one("send", "meet", "begin") + " 0 mark 1 word me; "
                        + one("send", "meet", "begin") + " 0 mark " + pick(3) + " word me * 2; end; "
                        + "if me = 0 then any mark 1 into a; set d from; wait d mark " + pick(3)
                        + " into b; any mark 1 into c; tell a; tell b; tell c; end; " + one("all;", "sum a into a; tell a;", "");
            default:
                return one("send", "meet") + " 1 - me mark 0 word 3; wait 1 - me mark 0 into a; " + list(0, 2, new int[] {2});
        }
    }

    private static String spoil(String text) {
        StringBuilder b = new StringBuilder(text);
        for (int i = 0; i <= pick(2); i++) {
            int place = b.length() == 0 ? 0 : pick(b.length());
            String put = one("", "a", "x", "12345", "(", ")", "((((((((", ";", " end ", " else ", "<", "=", "9", " if ", "+",
                    "A", "\t", " mark", " 0", " word", "\u00e9", "most 0", "long 100", " most ", " me ", "((((((1))))))");
            if (pick(2) == 0 && place < b.length()) {
                b.deleteCharAt(place);
            }
            b.insert(place, put);
        }
        if (pick(6) == 0) {
            b.setLength(pick(b.length() + 1));
        }
        return b.toString();
    }

    private static String text() {
        String text = pick(2) == 0 ? talk() : list(0, 1 + pick(pick(5) == 0 ? 45 : 8), new int[] {60});
        text = pick(8) == 0 ? spoil(text) : text;
        return text.length() > 700 ? text.substring(0, 700) : text;
    }

    // ---- calls

    private static final List<String> RUN = new ArrayList<>();

    private static void both(String call, Due.Call one, Due.Call two) {
        long got = Due.answer(one);
        long want = Due.answer(two);
        RUN.add(call + " -> " + Due.name(want));
        Due.is(call, want, got);
        if (got != want) {
            RUN.forEach(System.out::println);
            Due.end("CompareTest");
        }
    }

    private static void feedBoth(SendHall x, NaiveHall y) {
        String text = text();
        feedBoth(x, y, text, pick(20) == 0 ? pick(text.length() + 30) - 5 : text.length());
    }

    private static void feedBoth(SendHall x, NaiveHall y, String text, int n) {
        byte[] bytes = Due.bytes(text);
        RUN.add(text);
        for (int i = 0; i < Due.rows(bytes); i++) {
            int[] r = Due.row(bytes, i);
            both("feed", () -> x.feed(r[0], r[1], r[2], r[3], r[4]), () -> y.feed(r[0], r[1], r[2], r[3], r[4]));
        }
        both("text(" + n + ")", () -> x.text(n), () -> y.text(n));
        both("fault()", x::fault, y::fault);
    }

    private static void worldBoth(SendHall x, NaiveHall y) {
        int n = pick(15) == 0 ? pick(11) : 2 + pick(pick(4) == 0 ? 7 : 2);
        int room = pick(25) == 0 ? pick(7) - 1 : pick(3);
        int near = pick(25) == 0 ? pick(110) - 5 : pick(4);
        int wide = pick(25) == 0 ? pick(110) - 5 : pick(4);
        both("world(" + n + "," + room + "," + near + "," + wide + ")",
                () -> x.world(n, room, near, wide) ? 1 : 0, () -> y.world(n, room, near, wide) ? 1 : 0);
    }

    private static void askAll(SendHall x, NaiveHall y) {
        both("reached", x::reached, y::reached);
        for (int k = -2; k < 4; k++) {
            int kind = k;
            both("endings(" + kind + ")", () -> x.endings(kind), () -> y.endings(kind));
        }
        long many = Due.answer(() -> y.endings(-1));
        for (int i = -1; i <= Math.min(many, 40); i++) {
            int e = i;
            for (int w = -1; w < 13; w++) {
                int what = w;
                both("ending(" + e + "," + what + ")", () -> x.ending(e, what), () -> y.ending(e, what));
            }
        }
        both("differs", () -> x.differs() ? 1 : 0, () -> y.differs() ? 1 : 0);
        for (int s = -1; s <= y.count(0); s++) {
            int step = s;
            both("step(" + step + ")", () -> x.step(step), () -> y.step(step));
            for (int h = -1; h < 4; h++) {
                int hand = h;
                both("could(" + hand + "," + step + ")", () -> x.could(hand, step), () -> y.could(hand, step));
            }
        }
        for (int w = -1; w < 8; w++) {
            int what = w;
            both("count(" + what + ")", () -> x.count(what), () -> y.count(what));
        }
    }

    private static void playBoth(SendHall x, NaiveHall y) {
        int many = pick(3) == 0 ? 0 : pick(20) - 1;
        long choices = 0;
        int n = y.count(2);
        for (int i = 0; i < 16; i++) {
            choices |= (long) (pick(40) == 0 ? pick(16) : pick(n)) << (4 * i);
        }
        long row = choices;
        both("play(" + many + "," + row + ")", () -> x.play(many, row), () -> y.play(many, row));
        askPlay(x, y);
    }

    private static void askPlay(SendHall x, NaiveHall y) {
        for (int h = -1; h < 9; h++) {
            for (int w = -1; w < 13; w++) {
                int hand = h;
                int what = w;
                both("of(" + hand + "," + what + ")", () -> x.of(hand, what), () -> y.of(hand, what));
            }
        }
        for (int k = -2; k < 9; k++) {
            int i = k;
            both("ring(" + i + ")", () -> x.ring(i), () -> y.ring(i));
            both("chose(" + i + ")", () -> x.chose(i), () -> y.chose(i));
        }
    }

    private static void cutBoth(SendHall x, NaiveHall y) {
        both("cut", x::cut, y::cut);
        for (int s = -1; s <= y.count(0); s++) {
            int step = s;
            both("left(" + step + ")", () -> x.left(step) ? 1 : 0, () -> y.left(step) ? 1 : 0);
        }
    }

    // ---- texts at the limits

    private static void all(int n, int room, String text) {
        RUN.clear();
        SendHall x = new SendHall();
        NaiveHall y = new NaiveHall();
        feedBoth(x, y, text, text.length());
        Due.is("text " + text, -1, x.fault());
        both("world", () -> x.world(n, room, 2, 3) ? 1 : 0, () -> y.world(n, room, 2, 3) ? 1 : 0);
        askAll(x, y);
        for (int many = 0; many < 17; many += 8) {
            int k = many;
            both("play(" + k + ", 0)", () -> x.play(k, 0x7654765476547654L), () -> y.play(k, 0x7654765476547654L));
            askPlay(x, y);
        }
        both("chose(63)", () -> x.chose(63), () -> y.chose(63));
        both("needs", x::needs, y::needs);
        both("least", () -> x.least(0), () -> y.least(0));
        cutBoth(x, y);
    }

    private static void limits() {
        all(8, 0, "begin(me=0)mark 1word 1;".repeat(29));
        all(8, 0, "if me<4then " + "any mark 1into a;".repeat(16) + "else " + "begin me-4mark 1word 1;".repeat(16) + "end;");
        // One HAND behind the other lays what it has: a chain of STATES, with more and more WORDS.
        String chain = "if 0<me then wait me-1mark 0into a;end;" + "begin(me=0)mark 1word me;".repeat(23)
                + "if me<n-1then begin me+1mark 0word 1;end;";
        all(7, 0, chain);
        all(8, 0, chain);
        // STATES that differ where 31 times one number and the next one are alike.
        String pair = "if me=0then any mark 0into c;any mark 0into d;if c=1then set b 31;else set a 1;end;set c 0;set d 0;"
                + "wait 3mark 1into d;%s else if me<3then begin 0mark 0word me;else begin 0mark 1word 0;end;end;";
        all(4, 0, String.format(pair, ""));
        all(4, 0, String.format(pair, "begin 1mark a word b;set a 0;set b 0;wait 3mark 2into a;").replace("1word 0;", "1word 0;begin 0mark 2word 0;"));
        // A HAND that STOPPED: by which mark it did is no part of the STATE.
        all(4, 0, "if me=0then any mark 0into a;any mark 0into b;set b 0;begin 3mark 9word a;any mark a into a most 1;"
                + "else if me<3then begin 0mark 0word me;else wait 0mark 9into c;meet 0mark c word 5long 2;set c 0;all;end;end;");
    }

    private static void oneCall(SendHall x, NaiveHall y) {
        switch (pick(9)) {
            case 0:
                feedBoth(x, y);
                break;
            case 1:
            case 2:
                worldBoth(x, y);
                break;
            case 3:
                askAll(x, y);
                break;
            case 4:
                playBoth(x, y);
                break;
            case 5:
                both("needs", x::needs, y::needs);
                break;
            case 6:
                cutBoth(x, y);
                break;
            case 7:
                int room = pick(6) - 1;
                both("least(" + room + ")", () -> x.least(room), () -> y.least(room));
                break;
            default:
                askPlay(x, y);
                break;
        }
    }

    public static void main(String[] args) {
        int runs = args.length > 0 ? Integer.parseInt(args[0]) : 1500;
        seed += args.length > 1 ? Integer.parseInt(args[1]) : 0;
        limits();
        for (int run = 0; run < runs; run++) {
            RUN.clear();
            SendHall x = new SendHall();
            NaiveHall y = new NaiveHall();
            feedBoth(x, y);
            for (int i = 0; i < 8; i++) {
                oneCall(x, y);
            }
        }
        Due.end("CompareTest");
    }
}
