import java.util.ArrayDeque;
import java.util.ArrayList;
import java.util.Arrays;
import java.util.Comparator;
import java.util.HashMap;
import java.util.HashSet;
import java.util.List;
import java.util.Map;
import java.util.NoSuchElementException;
import java.util.Set;
import java.util.TreeMap;
import java.util.TreeSet;

/** The document once more, in its most wasteful form: what SendHall is compared with. */
final class NaiveHall {
    private static final List<String> KINDS =
            List.of("send", "meet", "begin", "wait", "any", "done", "all", "sum", "set", "tell", "if");
    private static final List<String> VALUES = List.of("a", "b", "c", "d", "me", "n", "from");

    @SuppressWarnings("serial")
    static final class Fault extends RuntimeException {
        final int code;
        final int place;

        Fault(int code, int place) {
            super(null, null, false, false);
            this.code = code;
            this.place = place;
        }
    }

    interface Expr {
        int of(Hand hand);
    }

    static final class Step {
        String kind;
        int number;
        Expr other;
        Expr mark;
        Expr value;
        int into;
        int bound;
        List<Step> yes;
        List<Step> no;
        Step next;
        Step first;
        Step second;
    }

    static final class Word {
        int mark;
        int value;
        int size;
        boolean begun;
        int there;
    }

    static final class Hand {
        int me;
        int n;
        Step at;
        boolean stopped;
        int[] vars = new int[4];
        int from;
        int told;
        int clock;
        int waited;
        int taken;
    }

    static final class State {
        List<Hand> hands = new ArrayList<>();
        Map<String, List<Word>> lying = new TreeMap<>();

        List<Word> between(int sender, int receiver) {
            return lying.computeIfAbsent(sender + ">" + receiver, k -> new ArrayList<>());
        }

        State copy() {
            State s = new State();
            for (Hand h : hands) {
                Hand c = new Hand();
                c.me = h.me;
                c.n = h.n;
                c.at = h.at;
                c.stopped = h.stopped;
                c.vars = h.vars.clone();
                c.from = h.from;
                c.told = h.told;
                c.clock = h.clock;
                c.waited = h.waited;
                c.taken = h.taken;
                s.hands.add(c);
            }
            lying.forEach((k, v) -> s.lying.put(k, new ArrayList<>(v)));
            return s;
        }

        String key() {
            StringBuilder b = new StringBuilder();
            for (Hand h : hands) {
                b.append(h.at == null ? "E" : h.at.number).append(h.stopped ? "!" : ".");
                b.append(Arrays.toString(h.vars)).append(h.from).append('/').append(h.told).append(';');
            }
            lying.forEach((k, v) -> {
                for (Word w : v) {
                    b.append(k).append(':').append(w.mark).append(',').append(w.value).append(',').append(w.size)
                            .append(w.begun ? 'b' : 's').append(' ');
                }
            });
            return b.toString();
        }

        int lie() {
            int many = 0;
            for (List<Word> v : lying.values()) {
                many += v.size();
            }
            return many;
        }

        int kind() {
            boolean whole = true;
            boolean stops = false;
            for (Hand h : hands) {
                whole &= h.at == null;
                stops |= h.stopped;
            }
            return whole ? 0 : stops ? 1 : 2;
        }

        int unended() {
            int bits = 0;
            for (Hand h : hands) {
                bits |= h.at != null ? 1 << h.me : 0;
            }
            return bits;
        }
    }

    // ---- the text

    private String text = "";
    private int at;
    private int steps;
    private List<Step> all = new ArrayList<>();
    private List<Step> program = new ArrayList<>();
    private List<Step> found;

    private void blanks() {
        while (at < text.length() && (text.charAt(at) == ' ' || text.charAt(at) == '\n')) {
            at++;
        }
    }

    private String peek() {
        blanks();
        if (at >= text.length()) {
            return "";
        }
        int to = at;
        if (Character.toString(text.charAt(at)).matches("[a-z]")) {
            while (to < text.length() && Character.toString(text.charAt(to)).matches("[a-z]")) {
                to++;
            }
        } else if (Character.toString(text.charAt(at)).matches("[0-9]")) {
            while (to < text.length() && Character.toString(text.charAt(to)).matches("[0-9]")) {
                to++;
            }
        } else {
            to++;
        }
        return text.substring(at, to);
    }

    private String next() {
        String token = peek();
        at += token.length();
        return token;
    }

    private Fault bad(int code) {
        blanks();
        return new Fault(code, at);
    }

    private void need(String token) {
        if (!peek().equals(token)) {
            throw bad(1);
        }
        next();
    }

    private static boolean isWord(String token) {
        return token.matches("[a-z]+");
    }

    private static boolean isNumber(String token) {
        return token.matches("[0-9]+");
    }

    private List<Step> steps(int ifs) {
        List<Step> list = new ArrayList<>();
        while (KINDS.contains(peek())) {
            list.add(oneStep(ifs));
        }
        return list;
    }

    private Step oneStep(int ifs) {
        if (steps == 40) {
            throw bad(2);
        }
        if (peek().equals("if") && ifs == 4) {
            throw bad(2);
        }
        Step s = new Step();
        s.kind = next();
        s.number = steps++;
        found.add(s);
        switch (s.kind) {
            case "send":
            case "meet":
            case "begin":
                s.other = sum(0);
                need("mark");
                s.mark = sum(0);
                need("word");
                s.value = sum(0);
                s.bound = bound("long", 1);
                break;
            case "wait":
            case "any":
                if (s.kind.equals("wait")) {
                    s.other = sum(0);
                }
                need("mark");
                s.mark = sum(0);
                need("into");
                s.into = var();
                s.bound = bound("most", 99);
                break;
            case "sum":
                s.value = sum(0);
                need("into");
                s.into = var();
                break;
            case "set":
                s.into = var();
                s.value = expr(0);
                break;
            case "tell":
                s.value = expr(0);
                break;
            case "if":
                s.value = expr(0);
                need("then");
                s.yes = steps(ifs + 1);
                s.no = new ArrayList<>();
                if (peek().equals("else")) {
                    next();
                    s.no = steps(ifs + 1);
                }
                need("end");
                break;
            default:
                break;
        }
        need(";");
        return s;
    }

    private int bound(String word, int usual) {
        if (!peek().equals(word)) {
            return usual;
        }
        next();
        String number = peek();
        if (!isNumber(number)) {
            throw bad(1);
        }
        if (number.length() > 4 || Integer.parseInt(number) < 1 || Integer.parseInt(number) > 99) {
            throw bad(2);
        }
        return Integer.parseInt(next());
    }

    private int var() {
        String token = peek();
        if (!isWord(token)) {
            throw bad(1);
        }
        if (VALUES.indexOf(token) < 0 || VALUES.indexOf(token) > 3) {
            throw bad(3);
        }
        return VALUES.indexOf(next());
    }

    private Expr expr(int within) {
        if (within == 7) {
            String token = peek();
            throw bad(isWord(token) || isNumber(token) || token.equals("(") ? 2 : 1);
        }
        Expr left = sum(within);
        if (peek().equals("<")) {
            next();
            Expr right = sum(within);
            return h -> left.of(h) < right.of(h) ? 1 : 0;
        }
        if (peek().equals("=")) {
            next();
            Expr right = sum(within);
            return h -> left.of(h) == right.of(h) ? 1 : 0;
        }
        return left;
    }

    private Expr sum(int within) {
        Expr left = product(within);
        while (peek().equals("+") || peek().equals("-")) {
            int sign = next().equals("+") ? 1 : -1;
            Expr first = left;
            Expr right = product(within);
            left = h -> first.of(h) + sign * right.of(h);
        }
        return left;
    }

    private Expr product(int within) {
        Expr left = part(within);
        while (peek().equals("*") || peek().equals("/")) {
            boolean times = next().equals("*");
            Expr first = left;
            Expr right = part(within);
            left = h -> times ? first.of(h) * right.of(h) : right.of(h) == 0 ? 0 : (int) ((long) first.of(h) / right.of(h));
        }
        return left;
    }

    private Expr part(int within) {
        String token = peek();
        if (isNumber(token)) {
            if (token.length() > 4) {
                throw bad(2);
            }
            int number = Integer.parseInt(next());
            return h -> number;
        }
        if (isWord(token)) {
            int which = VALUES.indexOf(token);
            if (which < 0) {
                throw bad(3);
            }
            next();
            return h -> which < 4 ? h.vars[which] : which == 4 ? h.me : which == 5 ? h.n : h.from;
        }
        if (token.equals("(")) {
            next();
            Expr inner = expr(within + 1);
            need(")");
            return inner;
        }
        throw bad(1);
    }

    private static Step link(List<Step> list, Step behind) {
        Step next = behind;
        for (int i = list.size() - 1; i >= 0; i--) {
            Step s = list.get(i);
            s.next = next;
            if (s.kind.equals("if")) {
                s.first = link(s.yes, next);
                s.second = link(s.no, next);
            }
            next = s;
        }
        return next;
    }

    // ---- the world

    private int n = 2;
    private int room;
    private int near;
    private int wide;

    private void arrive(State state, Hand h, Step step, Set<Integer> out) {
        h.at = step;
        while (h.at != null) {
            Step s = h.at;
            if (out.contains(s.number)) {
                h.at = s.next;
            } else if (s.kind.equals("set")) {
                h.vars[s.into] = s.value.of(h);
                h.at = s.next;
            } else if (s.kind.equals("tell")) {
                h.told = 31 * h.told + s.value.of(h);
                h.at = s.next;
            } else if (s.kind.equals("if")) {
                h.at = s.value.of(h) != 0 ? s.first : s.second;
            } else {
                break;
            }
        }
        if (h.at != null && h.at.other != null) {
            int other = h.at.other.of(h);
            h.stopped = other < 0 || other >= h.n || other == h.me;
        }
    }

    private State first(int n, Set<Integer> out) {
        State s = new State();
        for (int i = 0; i < n; i++) {
            Hand h = new Hand();
            h.me = i;
            h.n = n;
            s.hands.add(h);
            arrive(s, h, program.isEmpty() ? null : program.get(0), out);
        }
        return s;
    }

    private static String doing(Hand h) {
        return h.at == null || h.stopped ? "" : h.at.kind;
    }

    private static int find(List<Word> words, int mark) {
        for (int i = 0; i < words.size(); i++) {
            if (words.get(i).mark == mark) {
                return i;
            }
        }
        return -1;
    }

    private boolean lays(State s, Hand h, int room) {
        if (doing(h).equals("begin")) {
            return true;
        }
        long sent = s.between(h.me, h.at.other.of(h)).stream().filter(w -> !w.begun).count();
        return doing(h).equals("send") && sent < room;
    }

    private boolean meets(State s, Hand h) {
        Hand o = s.hands.get(h.at.other.of(h));
        int mark = h.at.mark.of(h);
        boolean there = doing(o).equals("any") || doing(o).equals("wait") && o.at.other.of(o) == h.me;
        return there && o.at.mark.of(o) == mark && find(s.between(h.me, o.me), mark) < 0;
    }

    /** The MOVES of a HAND: -1, or at an 'any' whose WORD is taken. */
    private List<Integer> moves(State s, Hand h, int room) {
        boolean can = false;
        switch (doing(h)) {
            case "send":
            case "meet":
            case "begin":
                can = lays(s, h, room) || meets(s, h);
                break;
            case "wait":
                can = find(s.between(h.at.other.of(h), h.me), h.at.mark.of(h)) >= 0;
                break;
            case "any":
                List<Integer> sources = new ArrayList<>();
                for (Hand o : s.hands) {
                    if (o != h && find(s.between(o.me, h.me), h.at.mark.of(h)) >= 0) {
                        sources.add(o.me);
                    }
                }
                return sources;
            case "done":
                can = true;
                for (Hand o : s.hands) {
                    can &= s.between(h.me, o.me).stream().noneMatch(w -> w.begun);
                }
                break;
            case "all":
            case "sum":
                can = h.me == 0 && s.hands.stream().allMatch(o -> doing(o).equals(doing(h)));
                break;
            default:
                break;
        }
        return can ? List.of(-1) : List.of();
    }

    private static void raise(Hand h, int clock) {
        if (clock > h.clock) {
            h.waited += clock - h.clock;
            h.clock = clock;
        }
    }

    private int far(Hand h, Hand o) {
        return near + wide * Math.abs(h.me - o.me);
    }

    private void receive(State s, Hand h, int from, int value, int size, Set<Integer> out) {
        h.vars[h.at.into] = value;
        h.from = from;
        if (size > h.at.bound) {
            h.stopped = true;
        } else {
            arrive(s, h, h.at.next, out);
        }
    }

    /** Moves; the answer is {the HAND at an 'any' that took, its STEP, whose WORD}, or null. */
    private int[] move(State s, Hand h, int source, int room, Set<Integer> out) {
        int[] took = null;
        switch (doing(h)) {
            case "send":
            case "meet":
            case "begin":
                Hand o = s.hands.get(h.at.other.of(h));
                Word w = new Word();
                w.mark = h.at.mark.of(h);
                w.value = h.at.value.of(h);
                w.size = h.at.bound;
                w.begun = doing(h).equals("begin");
                if (lays(s, h, room)) {
                    h.clock++;
                    w.there = h.clock + far(h, o);
                    s.between(h.me, o.me).add(w);
                } else {
                    took = doing(o).equals("any") ? new int[] {o.me, o.at.number, h.me} : null;
                    int later = Math.max(h.clock, o.clock);
                    raise(h, later);
                    raise(o, later);
                    h.clock += 1 + far(h, o);
                    o.clock += 1 + far(h, o);
                    receive(s, o, h.me, w.value, w.size, out);
                }
                arrive(s, h, h.at.next, out);
                break;
            case "wait":
            case "any":
                boolean any = doing(h).equals("any");
                int from = any ? source : h.at.other.of(h);
                took = any ? new int[] {h.me, h.at.number, from} : null;
                List<Word> words = s.between(from, h.me);
                Word taken = words.remove(find(words, h.at.mark.of(h)));
                raise(h, taken.there);
                h.clock++;
                if (taken.begun) {
                    Hand sender = s.hands.get(from);
                    sender.taken = Math.max(sender.taken, h.clock);
                }
                receive(s, h, from, taken.value, taken.size, out);
                break;
            case "done":
                raise(h, h.taken);
                h.clock++;
                arrive(s, h, h.at.next, out);
                break;
            default:
                together(s, doing(h), out);
                break;
        }
        return took;
    }

    private void together(State s, String kind, Set<Integer> out) {
        int latest = s.hands.stream().mapToInt(h -> h.clock).max().orElse(0);
        int total = 0;
        if (kind.equals("sum")) {
            total = s.hands.stream().mapToInt(h -> h.at.value.of(h)).sum();
        }
        for (Hand h : s.hands) {
            raise(h, latest);
            h.clock++;
            if (kind.equals("sum")) {
                h.vars[h.at.into] = total;
            }
            arrive(s, h, h.at.next, out);
        }
    }

    // ---- all STATES

    private final class Space {
        Map<String, State> seen = new HashMap<>();
        TreeSet<long[]> endings = new TreeSet<>(Arrays::compare);
        Map<String, Integer> could = new HashMap<>();
        boolean spent;

        Space(int room, Set<Integer> out) {
            ArrayDeque<State> open = new ArrayDeque<>();
            State first = first(n, out);
            seen.put(first.key(), first);
            open.push(first);
            while (!open.isEmpty() && !spent) {
                State s = open.pop();
                boolean ends = true;
                for (Hand h : s.hands) {
                    for (int source : moves(s, h, room)) {
                        ends = false;
                        State t = s.copy();
                        int[] took = move(t, t.hands.get(h.me), source, room, out);
                        if (took != null) {
                            could.merge(took[0] + " " + took[1], 1 << took[2], (a, b) -> a | b);
                        }
                        if (seen.putIfAbsent(t.key(), t) == null) {
                            open.push(t);
                        }
                    }
                }
                if (ends) {
                    endings.add(tell(s));
                }
                spent = seen.size() > 200;
            }
        }

        long[] tell(State s) {
            long[] row = new long[n + 3];
            row[0] = s.kind();
            for (int i = 0; i < n; i++) {
                row[1 + i] = s.hands.get(i).told;
            }
            row[n + 1] = s.lie();
            row[n + 2] = s.unended();
            return row;
        }

        boolean locks() {
            return !spent && endings.stream().anyMatch(e -> e[0] == 2);
        }
    }

    private Space here;

    private Space here() {
        if (here == null) {
            here = new Space(room, Set.of());
        }
        return here;
    }

    // ---- the face

    private final List<Integer> tape = new ArrayList<>();
    private int place = -1;
    private Set<Integer> kept;
    private State played;
    private List<Integer> made;

    int feed(int a, int b, int c, int d, int e) {
        if (tape.size() + 20 > 700) {
            return -1;
        }
        for (int v : new int[] {a, b, c, d, e}) {
            for (int shift : new int[] {24, 16, 8, 0}) {
                tape.add((v >> shift) & 255);
            }
        }
        return tape.size();
    }

    int text(int many) {
        if (many < 0 || many > tape.size()) {
            throw new IllegalArgumentException();
        }
        StringBuilder b = new StringBuilder();
        for (int i = 0; i < many; i++) {
            b.append((char) tape.get(i).intValue());
        }
        tape.clear();
        text = b.toString();
        at = 0;
        steps = 0;
        found = new ArrayList<>();
        place = -1;
        try {
            List<Step> read = steps(0);
            if (!peek().isEmpty()) {
                throw bad(1);
            }
            link(read, null);
            program = read;
            all = found;
            kept = null;
            played = null;
            here = null;
            return 0;
        } catch (Fault f) {
            place = f.place;
            return f.code;
        }
    }

    int fault() {
        return place;
    }

    boolean world(int n, int room, int near, int wide) {
        if (n < 2 || n > 8 || room < 0 || room > 3 || near < 0 || near > 99 || wide < 0 || wide > 99) {
            return false;
        }
        if (this.n != n) {
            played = null;
        }
        this.n = n;
        this.room = room;
        this.near = near;
        this.wide = wide;
        here = null;
        return true;
    }

    int count(int what) {
        if (what < 0 || what > 6) {
            throw new NoSuchElementException();
        }
        int anys = (int) all.stream().filter(s -> s.kind.equals("any")).count();
        return new int[] {all.size(), anys, n, room, near, wide, tape.size()}[what];
    }

    int step(int step) {
        if (step < 0 || step >= all.size()) {
            throw new NoSuchElementException();
        }
        return KINDS.indexOf(all.get(step).kind);
    }

    int reached() {
        return here().spent ? -1 : here().seen.size();
    }

    int endings(int kind) {
        if (kind < -1 || kind > 2) {
            throw new NoSuchElementException();
        }
        return here().spent ? -2 : (int) here().endings.stream().filter(e -> kind == -1 || e[0] == kind).count();
    }

    int ending(int i, int what) {
        if (here().spent || i < 0 || i >= here().endings.size()) {
            throw new NoSuchElementException();
        }
        long[] e = new ArrayList<>(here().endings).get(i);
        if (what == 0) {
            return (int) e[0];
        }
        if (what == 1 || what == 2) {
            return (int) e[n + what];
        }
        if (what >= 4 && what < 4 + n) {
            return (int) e[what - 3];
        }
        throw new NoSuchElementException();
    }

    boolean differs() {
        Set<String> told = new HashSet<>();
        for (long[] e : here().endings) {
            if (e[0] == 0) {
                told.add(Arrays.toString(Arrays.copyOfRange(e, 1, n + 1)));
            }
        }
        return !here().spent && told.size() > 1;
    }

    int could(int hand, int step) {
        if (hand < 0 || hand >= n || step < 0 || step >= all.size() || !all.get(step).kind.equals("any")) {
            throw new NoSuchElementException();
        }
        return here().spent ? -1 : here().could.getOrDefault(hand + " " + step, 0);
    }

    int needs() {
        for (int r = 0; r < 4; r++) {
            Space s = new Space(r, Set.of());
            if (s.spent) {
                return -1;
            }
            if (!s.locks()) {
                return r;
            }
        }
        return -1;
    }

    int cut() {
        if (!here().locks()) {
            return -1;
        }
        Set<Integer> out = new HashSet<>();
        int many = 0;
        for (Step s : all) {
            if (!s.kind.equals("if")) {
                Set<Integer> tried = new HashSet<>(out);
                tried.add(s.number);
                if (new Space(room, tried).locks()) {
                    out = tried;
                } else {
                    many++;
                }
            }
        }
        kept = out;
        return many;
    }

    boolean left(int step) {
        if (kept == null || step < 0 || step >= all.size()) {
            throw new NoSuchElementException();
        }
        return !kept.contains(step);
    }

    private State run(int n, int room, List<Integer> row, List<Integer> made) {
        State s = first(n, Set.of());
        boolean moved = true;
        while (moved) {
            moved = false;
            for (int i = 0; i < n && !moved; i++) {
                Hand h = s.hands.get(i);
                for (int source : moves(s, h, room)) {
                    State t = s.copy();
                    int[] took = move(t, t.hands.get(i), source, room, Set.of());
                    int wanted = made.size() < row.size() ? row.get(made.size()) : -1;
                    if (took == null || wanted == -1 || wanted == took[2]) {
                        if (took != null) {
                            made.add(took[2]);
                        }
                        s = t;
                        moved = true;
                        break;
                    }
                }
            }
        }
        return s;
    }

    int play(int many, long choices) {
        if (many < 0 || many > 16) {
            throw new IllegalArgumentException();
        }
        List<Integer> row = new ArrayList<>();
        long rest = choices;
        for (int i = 0; i < many; i++) {
            row.add((int) (rest & 15));
            rest = rest >>> 4;
        }
        if (row.stream().anyMatch(c -> c >= n)) {
            throw new IllegalArgumentException();
        }
        made = new ArrayList<>();
        played = run(n, room, row, made);
        return played.kind();
    }

    private int waits(Hand h) {
        int bits = 0;
        for (Hand o : played.hands) {
            boolean waits;
            switch (doing(h)) {
                case "send":
                case "meet":
                case "wait":
                    waits = h.at.other.of(h) == o.me;
                    break;
                case "any":
                    waits = o != h && o.at != null;
                    break;
                case "done":
                    waits = played.between(h.me, o.me).stream().anyMatch(w -> w.begun);
                    break;
                case "all":
                case "sum":
                    waits = !doing(o).equals(doing(h));
                    break;
                default:
                    waits = false;
                    break;
            }
            bits |= waits ? 1 << o.me : 0;
        }
        return bits;
    }

    int of(int hand, int what) {
        if (played == null || hand < 0 || hand >= n) {
            throw new NoSuchElementException();
        }
        Hand h = played.hands.get(hand);
        switch (what) {
            case 0:
                return h.clock;
            case 1:
                return h.waited;
            case 2:
                return h.at == null ? -1 : h.at.number;
            case 3:
                return h.told;
            case 4:
                return h.from;
            case 5:
                return waits(h);
            case 6:
                return h.stopped ? 1 : 0;
            case 8:
            case 9:
            case 10:
            case 11:
                return h.vars[what - 8];
            default:
                throw new NoSuchElementException();
        }
    }

    int ring(int i) {
        if (played == null) {
            throw new NoSuchElementException();
        }
        List<Integer> path = new ArrayList<>();
        List<Integer> ring = new ArrayList<>();
        int hand = played.hands.stream().filter(h -> h.at != null).mapToInt(h -> h.me).min().orElse(-1);
        while (hand >= 0 && played.hands.get(hand).at != null) {
            if (path.contains(hand)) {
                ring = path.subList(path.indexOf(hand), path.size());
                break;
            }
            path.add(hand);
            int bits = waits(played.hands.get(hand));
            hand = bits == 0 ? -1 : Integer.numberOfTrailingZeros(bits);
        }
        return pick(ring, i);
    }

    int chose(int i) {
        if (played == null) {
            throw new NoSuchElementException();
        }
        return pick(made, i);
    }

    private static int pick(List<Integer> list, int i) {
        if (i == -1) {
            return list.size();
        }
        if (i < 0 || i >= list.size()) {
            throw new NoSuchElementException();
        }
        return list.get(i);
    }

    int least(int room) {
        if (room < 0 || room > 3) {
            throw new IllegalArgumentException();
        }
        if (all.stream().anyMatch(s -> s.kind.equals("any"))) {
            return -2;
        }
        for (int many = 2; many <= 8; many++) {
            if (run(many, room, List.of(), new ArrayList<>()).kind() == 2) {
                return many;
            }
        }
        return -1;
    }
}
