import com.sun.management.ThreadMXBean;
import java.lang.management.ManagementFactory;
import java.lang.reflect.Array;
import java.lang.reflect.Field;
import java.lang.reflect.Modifier;
import java.util.IdentityHashMap;

/** 512 calls of one object, and how much room an object and its calls need: LANGUAGE.md counts what a run makes. */
public final class UseTest {
    private static final int CALLS = 512;

    /** 200 STATES and 40 STEPS: cut() asks for all STATES once for each STEP that is left out. */
    private static final String DEAR = "if me = 0 then " + "begin 1 mark 0 word 0;".repeat(7) + "else "
            + "begin 0 mark 0 word 0;".repeat(4) + "end;" + "tell 1;".repeat(26) + "if me = 0 then wait 1 mark 9 into a; end;";
    private static final String STAR =
            "if me=0then any mark 0into a;any mark 0into b;tell a;all;else begin 0mark 0word me;end;";

    private static long fields;
    private static long objects;

    private static void dearCalls() {
        SendHall x = Due.hall(DEAR, 3, 0, 99, 99);
        int calls = 1 + Due.rows(Due.bytes(DEAR)) + 1;
        for (; calls < CALLS - 4; calls++) {
            if (calls % 2 == 0) {
                Due.is("14: one STEP is left, time and again", 1, x::cut);
            } else {
                Due.is("8: 200, time and again", 200, x::reached);
            }
        }
        Due.is("16: a PLAY among the last calls", 2, () -> x.play(0, 0));
        Due.is("17: HAND 0", 7, () -> x.of(0, 0));
        Due.is("6: STEPS", 40, () -> x.count(0));
        Due.is("14: the last call", 1, x::cut);
    }

    private static void texts() {
        SendHall x = new SendHall();
        for (int call = 0; call < CALLS; call += 4) {
            int steps = call / 4 % 6;
            Due.is("2: time and again", 20, () -> x.feed(0x616C6C3B, 0x616C6C3B, 0x616C6C3B, 0x616C6C3B, 0x616C6C3B));
            Due.is("3: time and again", Due.ARGUMENT, () -> x.text(21));
            Due.is("3: STEPS", steps == 5 ? 1 : 0, () -> x.text(steps == 5 ? 19 : 4 * steps));
            Due.is("6: STEPS", steps == 5 ? 4 : steps, () -> x.count(0));
        }
    }

    /** Each call that can be refused is, and nothing changes by it. */
    private static void refusedCalls() {
        SendHall x = Due.hall("if me=0then any mark 0into a;any mark 0into b;wait 1mark 5into c;else begin 0mark 0word me;end;", 3, 1, 2, 3);
        Due.is("14: cut", 1, x::cut);
        Due.is("16: play", 2, () -> x.play(2, 0x12));
        Due.is("3: a FAULT", 3, () -> Due.text(x, "tell e;"));
        Due.feed(x, "tell 1;");
        String before = Due.told(x);
        for (int none : new int[] {-2, 40, Integer.MIN_VALUE, Integer.MAX_VALUE}) {
            Due.is("3: text", Due.ARGUMENT, () -> x.text(none));
            Due.holds("5: world", false, x.world(none, 0, 0, 0));
            Due.is("6: count", Due.ELEMENT, () -> x.count(none));
            Due.is("7: step", Due.ELEMENT, () -> x.step(none));
            Due.is("9: endings", Due.ELEMENT, () -> x.endings(none));
            Due.is("10: ending", Due.ELEMENT, () -> x.ending(none, 0));
            Due.is("10: ending", Due.ELEMENT, () -> x.ending(0, none));
            Due.is("12: could", Due.ELEMENT, () -> x.could(none, 1));
            Due.is("12: could", Due.ELEMENT, () -> x.could(0, none));
            Due.is("15: left", Due.ELEMENT, () -> x.left(none) ? 1 : 0);
            Due.is("16: play", Due.ARGUMENT, () -> x.play(none, 0));
            Due.is("16: play", Due.ARGUMENT, () -> x.play(16, 3));
            Due.is("17: of", Due.ELEMENT, () -> x.of(none, 0));
            Due.is("17: of", Due.ELEMENT, () -> x.of(0, none));
            Due.is("18: ring", Due.ELEMENT, () -> x.ring(none));
            Due.is("19: chose", Due.ELEMENT, () -> x.chose(none));
            Due.is("20: least", Due.ARGUMENT, () -> x.least(none));
        }
        Due.same("what was refused", before, Due.told(x));
        Due.is("6: the tape", 20, () -> x.count(6));
        Due.is("4: the FAULT", 5, x::fault);
        Due.is("3: the tape's bytes", 0, () -> x.text(7));
    }

    private static void count(Object o, IdentityHashMap<Object, Boolean> seen) throws IllegalAccessException {
        if (o == null || seen.put(o, true) != null) {
            return;
        }
        objects++;
        if (o.getClass().isArray()) {
            int length = Array.getLength(o);
            fields += length;
            for (int i = 0; i < length && !o.getClass().getComponentType().isPrimitive(); i++) {
                count(Array.get(o, i), seen);
            }
            return;
        }
        for (Field f : o.getClass().getDeclaredFields()) {
            if (!Modifier.isStatic(f.getModifiers())) {
                fields++;
                f.setAccessible(true);
                if (!f.getType().isPrimitive()) {
                    count(f.get(o), seen);
                }
            }
        }
    }

    private static void room() throws IllegalAccessException {
        SendHall x = Due.hall(DEAR, 8, 3);
        count(x, new IdentityHashMap<>());
        Due.is("an object and its rows: " + objects, 1, objects < 100 ? 1 : 0);
        Due.is("their fields and elements: " + fields, 1, fields < 120_000 ? 1 : 0);
    }

    private static int askAll(SendHall x, int[][] rows) {
        int all = 0;
        for (int[] r : rows) {
            all += x.feed(r[0], r[1], r[2], r[3], r[4]);
        }
        all += x.text(STAR.length()) + (x.world(3, 1, 2, 3) ? 1 : 0) + (x.world(9, 0, 0, 0) ? 1 : 0);
        all += x.reached() + x.needs() + x.cut() + x.play(16, 0) + x.of(0, 5) + x.ring(-1) + x.chose(-1) + x.least(1);
        all += x.endings(-1) + x.ending(0, 0) + (x.differs() ? 1 : 0) + x.could(0, 1) + x.count(0) + x.step(0);
        all += (x.left(0) ? 1 : 0) + x.feed(0x74656C6C, 0x20666F6F, 0, 0, 0) + x.text(20) + x.fault();
        return all;
    }

    /** No call makes an object but its exception. */
    private static void callsMakeNothing() {
        byte[] bytes = Due.bytes(STAR);
        int[][] rows = new int[Due.rows(bytes)][];
        for (int i = 0; i < rows.length; i++) {
            rows[i] = Due.row(bytes, i);
        }
        SendHall x = new SendHall();
        int all = askAll(x, rows);
        ThreadMXBean threads = (ThreadMXBean) ManagementFactory.getThreadMXBean();
        long thread = Thread.currentThread().getId();
        threads.getThreadAllocatedBytes(thread);
        long before = threads.getThreadAllocatedBytes(thread);
        for (int i = 0; i < 18; i++) {
            all += askAll(x, rows);
        }
        long made = threads.getThreadAllocatedBytes(thread) - before;
        Due.is("bytes that some 500 calls made: " + made + " (" + all + ")", 1, made < 1_000 ? 1 : 0);
    }

    public static void main(String[] args) throws Exception {
        dearCalls();
        texts();
        refusedCalls();
        room();
        callsMakeNothing();
        Due.end("UseTest");
    }
}
