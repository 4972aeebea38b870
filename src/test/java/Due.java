import java.nio.charset.StandardCharsets;
import java.util.NoSuchElementException;

/** What all tests use: calls whose answer is not the one that is due are counted and printed. */
final class Due {
    /** Answers that stand for exceptions. */
    static final long ARGUMENT = Long.MIN_VALUE;
    static final long ELEMENT = Long.MIN_VALUE + 1;
    static final long OTHER = Long.MIN_VALUE + 2;

    private static int wrong;
    private static int asked;

    private Due() {
    }

    interface Call {
        long go();
    }

    static long answer(Call call) {
        try {
            return call.go();
        } catch (IllegalArgumentException e) {
            return e.getClass() == IllegalArgumentException.class ? ARGUMENT : OTHER;
        } catch (NoSuchElementException e) {
            return e.getClass() == NoSuchElementException.class ? ELEMENT : OTHER;
        } catch (Throwable e) {
            e.printStackTrace();
            return OTHER;
        }
    }

    static String name(long answer) {
        return answer == ARGUMENT ? "throws.IllegalArgumentException"
                : answer == ELEMENT ? "throws.NoSuchElementException"
                : answer == OTHER ? "throws another" : Long.toString(answer);
    }

    static void is(String what, long want, Call call) {
        is(what, want, answer(call));
    }

    static void is(String what, long want, long got) {
        asked++;
        if (got != want) {
            wrong++;
            System.out.println(what + " answered " + name(got) + ", due is " + name(want));
        }
    }

    static void holds(String what, boolean want, boolean got) {
        is(what, want ? 1 : 0, got ? 1 : 0);
    }

    static byte[] bytes(String text) {
        return text.getBytes(StandardCharsets.ISO_8859_1);
    }

    /** The i-th five numbers of a text that is fed. */
    static int[] row(byte[] bytes, int i) {
        int[] row = new int[5];
        for (int k = 0; k < 20; k++) {
            int place = 20 * i + k;
            int sign = place < bytes.length ? bytes[place] & 255 : 32;
            row[k / 4] |= sign << (24 - 8 * (k % 4));
        }
        return row;
    }

    static int rows(byte[] bytes) {
        return (bytes.length + 19) / 20;
    }

    static void feed(SendHall x, String text) {
        byte[] bytes = bytes(text);
        for (int i = 0; i < rows(bytes); i++) {
            int[] r = row(bytes, i);
            x.feed(r[0], r[1], r[2], r[3], r[4]);
        }
    }

    static int text(SendHall x, String text) {
        feed(x, text);
        return x.text(text.length());
    }

    /** A new object with a TEXT and a world. */
    static SendHall hall(String text, int n, int room, int near, int wide) {
        SendHall x = new SendHall();
        is("text(" + text + ")", 0, text(x, text));
        holds("world(" + n + ", " + room + ", " + near + ", " + wide + ")", true, x.world(n, room, near, wide));
        return x;
    }

    static SendHall hall(String text, int n, int room) {
        return hall(text, n, room, 0, 0);
    }

    /** All that an object tells without being changed, but for THE TEXT's FAULT and the tape: some 200 calls at most. */
    static String told(SendHall x) {
        StringBuilder b = new StringBuilder();
        int n = x.count(2);
        int steps = x.count(0);
        for (int what = 0; what < 6; what++) {
            int w = what;
            note(b, "count", () -> x.count(w));
        }
        note(b, "reached", x::reached);
        note(b, "differs", () -> x.differs() ? 1 : 0);
        note(b, "needs", x::needs);
        for (int what = -1; what < 3; what++) {
            int w = what;
            note(b, "endings", () -> x.endings(w));
        }
        for (int what = 0; what < 4 + n; what++) {
            int w = what;
            note(b, "ending", () -> x.ending(0, w));
        }
        for (int step = 0; step < Math.min(steps, 12); step++) {
            int s = step;
            note(b, "step", () -> x.step(s));
            note(b, "could", () -> x.could(0, s));
            note(b, "left", () -> x.left(s) ? 1 : 0);
        }
        for (int what = 0; what < 12 * n; what++) {
            int w = what;
            note(b, "of", () -> x.of(w % n, w / n));
        }
        for (int i = -1; i < 3; i++) {
            int k = i;
            note(b, "ring", () -> x.ring(k));
            note(b, "chose", () -> x.chose(k));
        }
        return b.toString();
    }

    private static void note(StringBuilder b, String call, Call made) {
        b.append(call).append(' ').append(name(answer(made))).append('\n');
    }

    /** That two told() are the same: a call changed nothing. */
    static void same(String what, String before, String after) {
        is(what + " changes nothing", 1, before.equals(after) ? 1 : 0);
    }

    /** Ends the test's program: with 1 if an answer was not the one that is due. */
    static void end(String test) {
        System.out.println(test + ": " + asked + " asked, " + wrong + " wrong");
        if (wrong != 0 || asked == 0) {
            System.exit(1);
        }
    }
}
