import java.util.Arrays;
import java.util.NoSuchElementException;

/** One TEXT run by many HANDS: every ENDING that any order of MOVES brings, PLAYS, and what locks. */
public final class SendHall {
    public static final int NONE = -1;

    private static final int HANDS = 8;
    private static final int LEAST_HANDS = 2;
    private static final int MOST_ROOM = 3;
    private static final int MOST_TICKS = 99;
    private static final int BYTES = 700;
    private static final int FEED = 20;
    private static final int STEPS = 40;
    private static final int STATES = 200;
    private static final int CHOICES = 16;
    private static final int MOST_LONG = 99;
    private static final int SPENT = -2;

    // All words that a TEXT knows: the kinds of a STEP, the VALUES, and those that join them.
    private static final String WORDS =
            "send meet begin wait any done all sum set tell if a b c d me n from mark word long into most then else end";
    private static final int SEND = 0;
    private static final int MEET = 1;
    private static final int BEGIN = 2;
    private static final int WAIT = 3;
    private static final int ANY = 4;
    private static final int DONE = 5;
    private static final int ALL = 6;
    private static final int SUM = 7;
    private static final int SET = 8;
    private static final int TELL = 9;
    private static final int IF = 10;
    private static final int WORD_A = 11;
    private static final int WORD_D = 14;
    private static final int WORD_FROM = 17;
    private static final int WORD_MARK = 18;
    private static final int WORD_WORD = 19;
    private static final int WORD_LONG = 20;
    private static final int WORD_INTO = 21;
    private static final int WORD_MOST = 22;
    private static final int WORD_THEN = 23;
    private static final int WORD_ELSE = 24;
    private static final int WORD_END = 25;
    private static final int OTHER_WORD = 26;

    // What a TOKEN is, behind the words: a NUMBER, the text's end, or a sign by its byte.
    private static final int NUMBER = 27;
    private static final int TEXT_END = 28;
    private static final int SIGN = 100;
    private static final int OPENING = SIGN + '(';
    private static final int CLOSING = SIGN + ')';
    private static final int SEMICOLON = SIGN + ';';
    private static final int TOO_LONG = -1;
    private static final int LETTER = 1;
    private static final int DIGIT = 2;
    private static final int OTHER_SIGN = 3;

    private static final int WHOLE = 0;
    private static final int STOPPED = 1;
    private static final int LOCKED = 2;

    // What a STEP asks: three places for each STEP.
    private static final int ASKS = 3;
    private static final int ASK_OTHER = 0;
    private static final int ASK_MARK = 1;
    private static final int ASK_VALUE = 2;

    // An EXPR is a row of items, values ahead of what joins them: a NUMBER is itself, the VALUE v is -1 - v.
    private static final int LAST_VALUE = -7;
    private static final int PLUS = -10;
    private static final int MINUS = -11;
    private static final int TIMES = -12;
    private static final int OVER = -13;
    private static final int LESS = -14;
    private static final int SAME = -15;
    private static final int EXPR_END = -20;
    // Each TOKEN makes at most one item, each of at most 120 EXPRs one end.
    private static final int CODE = 900;
    // At most three joints or values wait in each of at most eight EXPRs that stand in one another.
    private static final int STACK = 40;
    private static final int PARENTHESIS = 0;

    private static final int IFS = 4;
    private static final int PARENTHESES = 7;
    private static final int DIGITS = 4;
    private static final int CANNOT_STAND = 1;
    private static final int TOO_MUCH = 2;
    private static final int NO_SUCH_NAME = 3;

    // The fields of a HAND in a row: the seven VALUES in their order; the last three are what its STEP asked for.
    private static final int WIDTH = 13;
    private static final int AT_STEP = 0;
    private static final int STOPS = 1;
    private static final int FIRST_VALUE = 2;
    private static final int ME = 6;
    private static final int ALL_HANDS = 7;
    private static final int FROM = 8;
    private static final int TOLD = 9;
    private static final int OTHER = 10;
    private static final int MARK = 11;
    private static final int VALUE = 12;
    private static final int SPAN = HANDS * WIDTH;

    // Each STEP of each HAND makes at most one WORD, and at most one MOVE.
    private static final int LYING = HANDS * STEPS;
    private static final int MOVES = HANDS * STEPS + HANDS;
    // The i-th STATE lies at most i MOVES behind the first, so it has at most i WORDS.
    private static final int POOL = STATES * (STATES - 1) / 2;
    private static final int WORD_WIDTH = 3;
    private static final int TABLE = 512;

    private final Parser parser;
    private Script script;
    private int hands;
    private int room;
    private int near;
    private int wide;
    private final Space space;
    private final Game latest;
    private final Game trial;
    private boolean played;
    private boolean kept;
    private long leftOut;

    public SendHall() {
        parser = new Parser();
        script = new Script();
        hands = LEAST_HANDS;
        space = new Space();
        latest = new Game();
        trial = new Game();
    }

    public int feed(int a, int b, int c, int d, int e) {
        Tape tape = parser.tape;
        if (tape.fed + FEED > BYTES) {
            return NONE;
        }
        tape.add(a);
        tape.add(b);
        tape.add(c);
        tape.add(d);
        tape.add(e);
        return tape.fed;
    }

    public int text(int n) throws IllegalArgumentException {
        if (n < 0 || n > parser.tape.fed) {
            throw new IllegalArgumentException("the tape has not so many bytes");
        }
        int found = parser.read(n);
        parser.tape.fed = 0;
        if (found == 0) {
            script = parser.trade(script);
            space.forget();
            played = false;
            kept = false;
        }
        return found;
    }

    public int fault() {
        return parser.place;
    }

    public boolean world(int n, int room, int near, int wide) {
        if (n < LEAST_HANDS || n > HANDS || isNoRoom(room)) {
            return false;
        }
        if (near < 0 || near > MOST_TICKS || wide < 0 || wide > MOST_TICKS) {
            return false;
        }
        if (n != hands) {
            played = false;
        }
        hands = n;
        this.room = room;
        this.near = near;
        this.wide = wide;
        return true;
    }

    public int count(int what) throws NoSuchElementException {
        switch (what) {
            case 0:
                return script.steps;
            case 1:
                return script.anys;
            case 2:
                return hands;
            case 3:
                return room;
            case 4:
                return near;
            case 5:
                return wide;
            case 6:
                return parser.tape.fed;
            default:
                throw new NoSuchElementException("no such count");
        }
    }

    public int step(int step) throws NoSuchElementException {
        int kind = script.kindOf(step);
        if (kind == NONE) {
            throw new NoSuchElementException("no such STEP");
        }
        return kind;
    }

    public int reached() {
        space.explore(script, hands, room, 0);
        return space.spent ? NONE : space.states;
    }

    public int endings(int kind) throws NoSuchElementException {
        if (kind < NONE || kind > LOCKED) {
            throw new NoSuchElementException("no such kind");
        }
        space.explore(script, hands, room, 0);
        return space.spent ? SPENT : space.endingsOf(kind);
    }

    public int ending(int i, int what) throws NoSuchElementException {
        if (what < 0 || what == 3 || what >= 4 + hands) {
            throw new NoSuchElementException("no such what");
        }
        space.explore(script, hands, room, 0);
        if (space.spent || i < 0 || i >= space.found) {
            throw new NoSuchElementException("no such ENDING");
        }
        return space.tellEnding(i, what);
    }

    public boolean differs() {
        space.explore(script, hands, room, 0);
        return !space.spent && space.wholeUnlike();
    }

    public int could(int hand, int step) throws NoSuchElementException {
        if (isNoHand(hand) || script.kindOf(step) != ANY) {
            throw new NoSuchElementException("no such HAND or no 'any' STEP");
        }
        space.explore(script, hands, room, 0);
        return space.spent ? NONE : space.takenFrom(hand, step);
    }

    public int needs() {
        for (int tried = 0; tried <= MOST_ROOM; tried++) {
            space.explore(script, hands, tried, 0);
            if (space.spent) {
                return NONE;
            }
            if (!space.locks()) {
                return tried;
            }
        }
        return NONE;
    }

    public int cut() {
        space.explore(script, hands, room, 0);
        if (!space.locks()) {
            return NONE;
        }
        long out = 0;
        int remaining = 0;
        for (int step = 0; step < script.steps; step++) {
            if (script.kindOf(step) == IF) {
                continue;
            }
            space.explore(script, hands, room, out | 1L << step);
            if (space.locks()) {
                out |= 1L << step;
            } else {
                remaining++;
            }
        }
        leftOut = out;
        kept = true;
        return remaining;
    }

    public boolean left(int step) throws NoSuchElementException {
        if (!kept || script.kindOf(step) == NONE) {
            throw new NoSuchElementException("nothing is kept, or no such STEP");
        }
        return (leftOut >>> step & 1) == 0;
    }

    public int play(int many, long choices) throws IllegalArgumentException {
        if (many < 0 || many > CHOICES) {
            throw new IllegalArgumentException("0 to 16 choices");
        }
        for (int i = 0; i < many; i++) {
            if (isNoHand(choiceOf(choices, i))) {
                throw new IllegalArgumentException("a choice is no HAND");
            }
        }
        played = true;
        return latest.run(script, hands, room, near, wide, many, choices);
    }

    public int of(int hand, int what) throws NoSuchElementException {
        if (!played || isNoHand(hand) || what < 0 || what == 7 || what > 11) {
            throw new NoSuchElementException("no PLAY, no such HAND or no such what");
        }
        return latest.tellHand(hand, what);
    }

    public int ring(int i) throws NoSuchElementException {
        if (!played || i < NONE || i >= latest.ringSize) {
            throw new NoSuchElementException("no PLAY, or no such HAND of THE RING");
        }
        return i == NONE ? latest.ringSize : at(latest.ringRow, i);
    }

    public int chose(int i) throws NoSuchElementException {
        if (!played || i < NONE || i >= latest.made) {
            throw new NoSuchElementException("no PLAY, or no such choice");
        }
        return i == NONE ? latest.made : at(latest.madeRow, i);
    }

    public int least(int room) throws IllegalArgumentException {
        if (isNoRoom(room)) {
            throw new IllegalArgumentException("no such ROOM");
        }
        if (script.anys > 0) {
            return -2;
        }
        for (int n = LEAST_HANDS; n <= HANDS; n++) {
            if (trial.run(script, n, room, near, wide, 0, 0) == LOCKED) {
                return n;
            }
        }
        return NONE;
    }

    private boolean isNoHand(int hand) {
        return hand < 0 || hand >= hands;
    }

    private static boolean isNoRoom(int room) {
        return room < 0 || room > MOST_ROOM;
    }

    private static int choiceOf(long choices, int i) {
        return (int) (choices >>> 4 * i) & 15;
    }

    /** What stands in a row at a place; 0 where the row has no such place. */
    private static int at(int[] row, int place) {
        return place >= 0 && place < row.length ? row[place] : 0;
    }

    private static void put(int[] row, int place, int value) {
        if (place >= 0 && place < row.length) {
            row[place] = value;
        }
    }

    /** A TEXT in the form in which HANDS run it. */
    private static final class Script {
        private final int[] kind = new int[STEPS];
        private final int[] next = new int[STEPS];
        private final int[] otherwise = new int[STEPS];
        private final int[] into = new int[STEPS];
        private final int[] bound = new int[STEPS];
        private final int[] asks = new int[STEPS * ASKS];
        private final int[] code = new int[CODE];
        private int steps;
        private int anys;
        private int size;

        private void clear() {
            steps = 0;
            anys = 0;
            size = 0;
        }

        private int open(int newKind) {
            int step = steps;
            put(kind, step, newKind);
            put(next, step, step + 1);
            put(otherwise, step, step + 1);
            put(into, step, 0);
            put(bound, step, 0);
            for (int which = 0; which < ASKS; which++) {
                put(asks, step * ASKS + which, NONE);
            }
            steps++;
            if (newKind == ANY) {
                anys++;
            }
            return step;
        }

        /** An 'if' is whole: 'else' begins at the STEP middle; what led there from 'then' leads behind it. */
        private void close(int step, int middle) {
            for (int inner = step + 1; inner < middle; inner++) {
                if (at(next, inner) == middle) {
                    put(next, inner, steps);
                }
                if (at(otherwise, inner) == middle) {
                    put(otherwise, inner, steps);
                }
            }
            put(next, step, middle == step + 1 ? steps : step + 1);
            put(otherwise, step, middle);
        }

        private void emit(int item) {
            if (size >= 0 && size < code.length) {
                code[size] = item;
                size++;
            }
        }

        private int kindOf(int step) {
            return step >= 0 && step < steps ? at(kind, step) : NONE;
        }
    }

    /** The bytes that were fed, and their TOKENS, one behind the other; the last one is the text's end. */
    private static final class Tape {
        private final int[] bytes = new int[BYTES];
        private int fed;
        private final int[] sorts = new int[BYTES + 1];
        private final int[] places = new int[BYTES + 1];
        private final int[] numbers = new int[BYTES + 1];
        private int many;
        private int now;

        private void add(int number) {
            for (int shift = 24; shift >= 0; shift -= 8) {
                put(bytes, fed, number >>> shift & 255);
                fed++;
            }
        }

        private void scan(int length) {
            many = 0;
            now = 0;
            int from = 0;
            for (int i = 0; i < BYTES && from < length; i++) {
                int to = endOf(from, length);
                if (!isBlank(from)) {
                    addToken(sortOf(from, to), from, numberOf(from, to));
                }
                from = to;
            }
            addToken(TEXT_END, length, 0);
        }

        private void addToken(int sort, int place, int number) {
            put(sorts, many, sort);
            put(places, many, place);
            put(numbers, many, number);
            many++;
        }

        private boolean isBlank(int place) {
            int sign = at(bytes, place);
            return sign == 32 || sign == 10;
        }

        private int classOf(int place) {
            int sign = at(bytes, place);
            if (sign >= 'a' && sign <= 'z') {
                return LETTER;
            }
            return sign >= '0' && sign <= '9' ? DIGIT : OTHER_SIGN;
        }

        private int endOf(int from, int length) {
            int kind = classOf(from);
            int to = from + 1;
            while (to < length && kind != OTHER_SIGN && classOf(to) == kind) {
                to++;
            }
            return to;
        }

        private int sortOf(int from, int to) {
            switch (classOf(from)) {
                case LETTER:
                    return wordOf(from, to);
                case DIGIT:
                    return NUMBER;
                default:
                    return SIGN + at(bytes, from);
            }
        }

        private int numberOf(int from, int to) {
            if (classOf(from) != DIGIT) {
                return 0;
            }
            if (to - from > DIGITS) {
                return TOO_LONG;
            }
            int number = 0;
            for (int i = from; i < to; i++) {
                number = number * 10 + at(bytes, i) - '0';
            }
            return number;
        }

        private int wordOf(int from, int to) {
            int which = 0;
            int start = 0;
            for (int i = 0; i <= WORDS.length(); i++) {
                if (i == WORDS.length() || WORDS.charAt(i) == ' ') {
                    if (i - start == to - from && matches(from, start, i)) {
                        return which;
                    }
                    which++;
                    start = i + 1;
                }
            }
            return OTHER_WORD;
        }

        private boolean matches(int from, int start, int end) {
            for (int i = start; i >= 0 && i < end && i < WORDS.length(); i++) {
                if (WORDS.charAt(i) != at(bytes, from + i - start)) {
                    return false;
                }
            }
            return true;
        }

        private int sort() {
            return at(sorts, now);
        }

        private int number() {
            return at(numbers, now);
        }

        private void advance() {
            if (now < many - 1) {
                now++;
            }
        }
    }

    /** Reads the TOKENS of a tape into a Script; the first FAULT along the text ends it. */
    private static final class Parser {
        private final Tape tape = new Tape();
        private Script script = new Script();
        private int fault;
        private int place = NONE;
        // The open 'if' STEPS, and where the 'else' of each begins; NONE: it has none yet.
        private final int[] opened = new int[IFS];
        private final int[] middles = new int[IFS];
        private int ifs;
        // What joins values and waits for the second one, and PARENTHESIS for each open one.
        private final int[] joints = new int[STACK];
        private int height;
        private int parentheses;
        // By bits, within how many parentheses no '<' or '=' can stand any more.
        private int compared;

        /** Gives the Script that was read, for one that isn't needed any more. */
        private Script trade(Script old) {
            Script read = script;
            script = old;
            return read;
        }

        private int read(int length) {
            script.clear();
            tape.scan(length);
            fault = 0;
            place = NONE;
            ifs = 0;
            for (int i = 0; i <= BYTES && fault == 0 && tape.sort() != TEXT_END; i++) {
                int sort = tape.sort();
                if (sort <= IF) {
                    oneStep(sort);
                } else if (sort == WORD_ELSE) {
                    turnIf();
                } else if (sort == WORD_END) {
                    closeIf();
                } else {
                    refuse(CANNOT_STAND);
                }
            }
            if (ifs > 0) {
                refuse(CANNOT_STAND);
            }
            return fault;
        }

        private void refuse(int why) {
            if (fault == 0) {
                fault = why;
                place = at(tape.places, tape.now);
            }
        }

        private void need(int sort) {
            if (tape.sort() == sort) {
                tape.advance();
            } else {
                refuse(CANNOT_STAND);
            }
        }

        // ---- STEPS

        private void oneStep(int kind) {
            if (script.steps >= STEPS || kind == IF && ifs >= IFS) {
                refuse(TOO_MUCH);
                return;
            }
            int step = script.open(kind);
            tape.advance();
            if (kind == IF) {
                openIf(step);
                return;
            }
            if (kind <= BEGIN) {
                outward(step);
            } else if (kind <= ANY) {
                inward(step, kind);
            } else {
                alone(step, kind);
            }
            need(SEMICOLON);
        }

        private void openIf(int step) {
            put(opened, ifs, step);
            put(middles, ifs, NONE);
            ifs++;
            ask(step, ASK_VALUE, true);
            need(WORD_THEN);
        }

        private void turnIf() {
            if (ifs == 0 || at(middles, ifs - 1) != NONE) {
                refuse(CANNOT_STAND);
                return;
            }
            put(middles, ifs - 1, script.steps);
            tape.advance();
        }

        private void closeIf() {
            if (ifs == 0) {
                refuse(CANNOT_STAND);
                return;
            }
            ifs--;
            int middle = at(middles, ifs);
            script.close(at(opened, ifs), middle == NONE ? script.steps : middle);
            tape.advance();
            need(SEMICOLON);
        }

        private void outward(int step) {
            ask(step, ASK_OTHER, false);
            need(WORD_MARK);
            ask(step, ASK_MARK, false);
            need(WORD_WORD);
            ask(step, ASK_VALUE, false);
            bound(step, WORD_LONG, 1);
        }

        private void inward(int step, int kind) {
            if (kind == WAIT) {
                ask(step, ASK_OTHER, false);
            }
            need(WORD_MARK);
            ask(step, ASK_MARK, false);
            need(WORD_INTO);
            variable(step);
            bound(step, WORD_MOST, MOST_LONG);
        }

        private void alone(int step, int kind) {
            if (kind == SUM) {
                ask(step, ASK_VALUE, false);
                need(WORD_INTO);
                variable(step);
            } else if (kind == SET) {
                variable(step);
                ask(step, ASK_VALUE, true);
            } else if (kind == TELL) {
                ask(step, ASK_VALUE, true);
            }
        }

        private void variable(int step) {
            int sort = tape.sort();
            if (sort >= WORD_A && sort <= WORD_D) {
                put(script.into, step, sort - WORD_A);
                tape.advance();
            } else {
                refuse(sort <= OTHER_WORD ? NO_SUCH_NAME : CANNOT_STAND);
            }
        }

        private void bound(int step, int name, int usual) {
            put(script.bound, step, usual);
            if (fault != 0 || tape.sort() != name) {
                return;
            }
            tape.advance();
            int number = tape.number();
            if (tape.sort() != NUMBER) {
                refuse(CANNOT_STAND);
            } else if (number < 1 || number > MOST_LONG) {
                refuse(TOO_MUCH);
            } else {
                put(script.bound, step, number);
                tape.advance();
            }
        }

        // ---- EXPRs

        /** Reads what a STEP asks: an EXPR if it is a test, else a SUM. */
        private void ask(int step, int which, boolean isTest) {
            put(script.asks, step * ASKS + which, script.size);
            height = 0;
            parentheses = 0;
            compared = isTest ? 0 : 1;
            boolean wantsPart = true;
            for (int i = 0; i <= BYTES && fault == 0; i++) {
                int joint = jointOf(tape.sort());
                if (wantsPart) {
                    wantsPart = part();
                } else if (joint != 0) {
                    push(joint);
                    wantsPart = true;
                } else if (tape.sort() == CLOSING && parentheses > 0) {
                    closeParenthesis();
                } else {
                    break;
                }
            }
            if (parentheses > 0) {
                refuse(CANNOT_STAND);
            }
            popDownTo(0);
            script.emit(EXPR_END);
        }

        /** Reads a NUMBER, a VALUE or a parenthesis that opens; whether a PART is still wanted behind it. */
        private boolean part() {
            int sort = tape.sort();
            if (sort != NUMBER && sort != OPENING && sort > OTHER_WORD) {
                refuse(CANNOT_STAND);
            } else if (parentheses >= PARENTHESES || tape.number() == TOO_LONG) {
                refuse(TOO_MUCH);
            } else if (sort == NUMBER) {
                script.emit(tape.number());
            } else if (sort == OPENING) {
                put(joints, height, PARENTHESIS);
                height++;
                parentheses++;
                compared &= ~(1 << parentheses);
            } else if (sort >= WORD_A && sort <= WORD_FROM) {
                script.emit(-1 - (sort - WORD_A));
            } else {
                refuse(NO_SUCH_NAME);
            }
            tape.advance();
            return sort == OPENING;
        }

        /** The joint that a sign is; 0: none that can stand here. */
        private int jointOf(int sort) {
            boolean comparesYet = (compared >> parentheses & 1) == 0;
            switch (sort - SIGN) {
                case '+':
                    return PLUS;
                case '-':
                    return MINUS;
                case '*':
                    return TIMES;
                case '/':
                    return OVER;
                case '<':
                    return comparesYet ? LESS : 0;
                case '=':
                    return comparesYet ? SAME : 0;
                default:
                    return 0;
            }
        }

        private static int rankOf(int joint) {
            switch (joint) {
                case PARENTHESIS:
                    return NONE;
                case LESS:
                case SAME:
                    return 0;
                case PLUS:
                case MINUS:
                    return 1;
                default:
                    return 2;
            }
        }

        private void push(int joint) {
            int rank = rankOf(joint);
            popDownTo(rank);
            if (rank == 0) {
                compared |= 1 << parentheses;
            }
            put(joints, height, joint);
            height++;
            tape.advance();
        }

        /** Ends the joints of a rank or above it, down to the latest open parenthesis. */
        private void popDownTo(int rank) {
            while (height > 0 && rankOf(at(joints, height - 1)) >= rank) {
                height--;
                script.emit(at(joints, height));
            }
        }

        private void closeParenthesis() {
            popDownTo(0);
            height--;
            parentheses--;
            tape.advance();
        }
    }

    /** WORDS that lie, ordered by both HANDS, so that STATES that are equal have equal rows. */
    private static final class Words {
        private final int[] tag = new int[LYING];
        private final int[] mark = new int[LYING];
        private final int[] value = new int[LYING];
        private final int[] there = new int[LYING];
        private int many;

        private static int pair(int sender, int receiver) {
            return sender * HANDS + receiver;
        }

        private int pairAt(int i) {
            return at(tag, i) >> 8;
        }

        private int senderAt(int i) {
            return pairAt(i) / HANDS;
        }

        private int sizeAt(int i) {
            return at(tag, i) >> 1 & 127;
        }

        private boolean begunAt(int i) {
            return (at(tag, i) & 1) == 1;
        }

        /** Where the first WORD of a mark lies between both; NONE: there is none. */
        private int first(int sender, int receiver, int wanted) {
            int pair = pair(sender, receiver);
            for (int i = 0; i < many; i++) {
                if (pairAt(i) == pair && at(mark, i) == wanted) {
                    return i;
                }
            }
            return NONE;
        }

        private int sentBetween(int sender, int receiver) {
            int pair = pair(sender, receiver);
            int sent = 0;
            for (int i = 0; i < many; i++) {
                if (pairAt(i) == pair && !begunAt(i)) {
                    sent++;
                }
            }
            return sent;
        }

        /** For whom the WORDS lie that a HAND began, as bits. */
        private int begunBy(int sender) {
            int bits = 0;
            for (int i = 0; i < many; i++) {
                if (begunAt(i) && senderAt(i) == sender) {
                    bits |= 1 << pairAt(i) % HANDS;
                }
            }
            return bits;
        }

        /** Lays a WORD behind all others between both; the latest two numbers: its tag's end, when it is THERE. */
        private void add(int pair, int newMark, int newValue, int sizeAndBegun, int newThere) {
            if (many >= LYING) {
                return;
            }
            int i = many;
            while (i > 0 && pairAt(i - 1) > pair) {
                copy(i - 1, i);
                i--;
            }
            put(tag, i, pair << 8 | sizeAndBegun);
            put(mark, i, newMark);
            put(value, i, newValue);
            put(there, i, newThere);
            many++;
        }

        private void remove(int place) {
            if (place < 0 || place >= many) {
                return;
            }
            for (int i = place + 1; i < many; i++) {
                copy(i, i - 1);
            }
            many--;
        }

        private void copy(int source, int target) {
            put(tag, target, at(tag, source));
            put(mark, target, at(mark, source));
            put(value, target, at(value, source));
            put(there, target, at(there, source));
        }
    }

    /** A STATE that can be moved, with its CLOCKS. */
    private static final class Scene {
        private Script script = new Script();
        private int n;
        private int room;
        private int near;
        private int wide;
        private long out;
        private final int[] rows = new int[SPAN];
        private final Words words = new Words();
        private final int[] stack = new int[STACK];
        private final int[] clock = new int[HANDS];
        private final int[] waited = new int[HANDS];
        private final int[] begunTaken = new int[HANDS];
        // At which 'any' the latest MOVE took a WORD, and whose it was; anyHand NONE: at none.
        private int anyHand;
        private int anyStep;
        private int anyFrom;
        // The HANDS that have done their STEP, as bits.
        private int going;

        private void begin(Script script, int n, int room, int near, int wide, long out) {
            this.script = script;
            this.n = n;
            this.room = room;
            this.near = near;
            this.wide = wide;
            this.out = out;
            Arrays.fill(rows, 0);
            Arrays.fill(clock, 0);
            Arrays.fill(waited, 0);
            Arrays.fill(begunTaken, 0);
            words.many = 0;
            anyHand = NONE;
            going = 0;
            for (int hand = 0; hand < n; hand++) {
                set(hand, ME, hand);
                set(hand, ALL_HANDS, n);
                arrive(hand, 0);
            }
        }

        private int get(int hand, int field) {
            int place = hand * WIDTH + field;
            return place >= 0 && place < rows.length ? rows[place] : 0;
        }

        private void set(int hand, int field, int value) {
            int place = hand * WIDTH + field;
            if (place >= 0 && place < rows.length) {
                rows[place] = value;
            }
        }

        private boolean isHand(int hand) {
            return hand >= 0 && hand < n;
        }

        private boolean hasEnded(int hand) {
            return get(hand, AT_STEP) == NONE;
        }

        /** The kind of the STEP at which a HAND is; NONE: it has ENDED or STOPPED, or there is no such HAND. */
        private int doing(int hand) {
            if (!isHand(hand) || get(hand, STOPS) == 1) {
                return NONE;
            }
            return script.kindOf(get(hand, AT_STEP));
        }

        // ---- coming to a STEP

        private void arrive(int hand, int first) {
            int step = first;
            for (int i = 0; i <= STEPS && isQuiet(step); i++) {
                step = pass(hand, step);
            }
            int kind = script.kindOf(step);
            set(hand, AT_STEP, kind == NONE ? NONE : step);
            set(hand, OTHER, ask(hand, step, ASK_OTHER));
            set(hand, MARK, ask(hand, step, ASK_MARK));
            set(hand, VALUE, ask(hand, step, ASK_VALUE));
            boolean namesOther = kind >= SEND && kind <= WAIT;
            if (namesOther && (!isHand(get(hand, OTHER)) || get(hand, OTHER) == hand)) {
                stop(hand);
            }
        }

        private void hasDone(int hand) {
            going |= 1 << hand;
        }

        /** Behind a MOVE: all that have done their STEP come to the next. */
        private void goOn() {
            for (int hand = 0; hand < n; hand++) {
                if ((going >> hand & 1) == 1) {
                    arrive(hand, at(script.next, get(hand, AT_STEP)));
                }
            }
            going = 0;
        }

        private boolean isLeftOut(int step) {
            return (out >>> step & 1) == 1;
        }

        private boolean isQuiet(int step) {
            int kind = script.kindOf(step);
            return kind != NONE && (kind >= SET || isLeftOut(step));
        }

        /** Does a QUIET STEP, or leaves it out; the next STEP. */
        private int pass(int hand, int step) {
            int next = at(script.next, step);
            if (isLeftOut(step)) {
                return next;
            }
            int value = ask(hand, step, ASK_VALUE);
            switch (script.kindOf(step)) {
                case SET:
                    set(hand, FIRST_VALUE + at(script.into, step), value);
                    return next;
                case TELL:
                    set(hand, TOLD, get(hand, TOLD) * 31 + value);
                    return next;
                default:
                    return value != 0 ? next : at(script.otherwise, step);
            }
        }

        /** What was asked for is forgotten: it is no part of a STATE in which the HAND STOPPED. */
        private void stop(int hand) {
            set(hand, STOPS, 1);
            set(hand, OTHER, 0);
            set(hand, MARK, 0);
            set(hand, VALUE, 0);
        }

        // ---- EXPRs

        private int ask(int hand, int step, int which) {
            boolean isStep = step >= 0 && step < script.steps;
            int place = isStep ? at(script.asks, step * ASKS + which) : NONE;
            if (place == NONE) {
                return 0;
            }
            int height = 0;
            for (int i = place; i < script.size && at(script.code, i) != EXPR_END; i++) {
                int item = at(script.code, i);
                if (item < LAST_VALUE) {
                    height--;
                    put(stack, height - 1, join(item, at(stack, height - 1), at(stack, height)));
                } else {
                    put(stack, height, item >= 0 ? item : get(hand, FIRST_VALUE - 1 - item));
                    height++;
                }
            }
            return at(stack, 0);
        }

        private static int join(int how, int a, int b) {
            switch (how) {
                case PLUS:
                    return a + b;
                case MINUS:
                    return a - b;
                case TIMES:
                    return a * b;
                case OVER:
                    return b == 0 ? 0 : a / b;
                case LESS:
                    return a < b ? 1 : 0;
                default:
                    return a == b ? 1 : 0;
            }
        }

        // ---- MOVES

        /** Whether a HAND has a MOVE; at an 'any': by a WORD of the HAND source. */
        private boolean can(int hand, int source) {
            int kind = doing(hand);
            switch (kind) {
                case SEND:
                    return hasRoom(hand) || canMeet(hand);
                case MEET:
                    return canMeet(hand);
                case BEGIN:
                    return true;
                case WAIT:
                    return words.first(get(hand, OTHER), hand, get(hand, MARK)) != NONE;
                case ANY:
                    return words.first(source, hand, get(hand, MARK)) != NONE;
                case DONE:
                    return words.begunBy(hand) == 0;
                case ALL:
                case SUM:
                    return hand == 0 && notDoing(kind) == 0;
                default:
                    return false;
            }
        }

        private boolean hasRoom(int hand) {
            return words.sentBetween(hand, get(hand, OTHER)) < room;
        }

        private boolean canMeet(int hand) {
            int other = get(hand, OTHER);
            int kind = doing(other);
            if (kind != WAIT && kind != ANY || get(other, MARK) != get(hand, MARK)) {
                return false;
            }
            if (kind == WAIT && get(other, OTHER) != hand) {
                return false;
            }
            return words.first(hand, other, get(hand, MARK)) == NONE;
        }

        /** Whether a MOVE of a HAND could but hand a WORD over to one that is at an 'any'. */
        private boolean meetsAny(int hand) {
            int kind = doing(hand);
            boolean meets = kind == MEET || kind == SEND && !hasRoom(hand);
            return meets && doing(get(hand, OTHER)) == ANY;
        }

        /** The least HAND whose WORD a HAND at an 'any' can take; NONE: there is none. */
        private int leastSource(int hand) {
            for (int source = 0; source < n; source++) {
                if (words.first(source, hand, get(hand, MARK)) != NONE) {
                    return source;
                }
            }
            return NONE;
        }

        /** The HANDS that aren't at a STEP of a kind, as bits. */
        private int notDoing(int kind) {
            int bits = 0;
            for (int hand = 0; hand < n; hand++) {
                if (doing(hand) != kind) {
                    bits |= 1 << hand;
                }
            }
            return bits;
        }

        private void move(int hand, int source) {
            anyHand = NONE;
            int kind = doing(hand);
            switch (kind) {
                case SEND:
                    if (hasRoom(hand)) {
                        lay(hand, 0);
                    } else {
                        handOver(hand);
                    }
                    break;
                case MEET:
                    handOver(hand);
                    break;
                case BEGIN:
                    lay(hand, 1);
                    break;
                case WAIT:
                    take(hand, get(hand, OTHER));
                    break;
                case ANY:
                    take(hand, source);
                    break;
                case DONE:
                    raise(hand, at(begunTaken, hand));
                    tick(hand, 1);
                    hasDone(hand);
                    break;
                default:
                    goTogether(kind);
                    break;
            }
        }

        private void lay(int hand, int begun) {
            int other = get(hand, OTHER);
            tick(hand, 1);
            int end = at(script.bound, get(hand, AT_STEP)) << 1 | begun;
            int there = at(clock, hand) + far(hand, other);
            words.add(Words.pair(hand, other), get(hand, MARK), get(hand, VALUE), end, there);
            hasDone(hand);
        }

        private void take(int hand, int source) {
            int i = words.first(source, hand, get(hand, MARK));
            raise(hand, at(words.there, i));
            tick(hand, 1);
            if (words.begunAt(i)) {
                put(begunTaken, source, Math.max(at(begunTaken, source), at(clock, hand)));
            }
            int value = at(words.value, i);
            int size = words.sizeAt(i);
            words.remove(i);
            receive(hand, source, value, size);
        }

        private void handOver(int hand) {
            int other = get(hand, OTHER);
            int later = Math.max(at(clock, hand), at(clock, other));
            raise(hand, later);
            raise(other, later);
            tick(hand, 1 + far(hand, other));
            tick(other, 1 + far(hand, other));
            receive(other, hand, get(hand, VALUE), at(script.bound, get(hand, AT_STEP)));
            hasDone(hand);
        }

        private void receive(int hand, int source, int value, int size) {
            int step = get(hand, AT_STEP);
            if (script.kindOf(step) == ANY) {
                anyHand = hand;
                anyStep = step;
                anyFrom = source;
            }
            set(hand, FIRST_VALUE + at(script.into, step), value);
            set(hand, FROM, source);
            if (size > at(script.bound, step)) {
                stop(hand);
            } else {
                hasDone(hand);
            }
        }

        private void goTogether(int kind) {
            int latest = 0;
            int total = 0;
            for (int hand = 0; hand < n; hand++) {
                latest = Math.max(latest, at(clock, hand));
                total += get(hand, VALUE);
            }
            for (int hand = 0; hand < n; hand++) {
                raise(hand, latest);
                tick(hand, 1);
                if (kind == SUM) {
                    set(hand, FIRST_VALUE + at(script.into, get(hand, AT_STEP)), total);
                }
                hasDone(hand);
            }
        }

        // ---- CLOCKS

        private int far(int hand, int other) {
            return near + Math.abs(hand - other) * wide;
        }

        private void tick(int hand, int ticks) {
            put(clock, hand, at(clock, hand) + ticks);
        }

        /** A CLOCK goes up to a later one: so long the HAND WAITED. */
        private void raise(int hand, int later) {
            int wait = later - at(clock, hand);
            if (wait > 0) {
                tick(hand, wait);
                put(waited, hand, at(waited, hand) + wait);
            }
        }

        // ---- what is told of a STATE

        /** The HANDS that haven't ENDED, as bits. */
        private int unended() {
            int bits = 0;
            for (int hand = 0; hand < n; hand++) {
                if (!hasEnded(hand)) {
                    bits |= 1 << hand;
                }
            }
            return bits;
        }

        private int outcome() {
            if (unended() == 0) {
                return WHOLE;
            }
            for (int hand = 0; hand < n; hand++) {
                if (get(hand, STOPS) == 1) {
                    return STOPPED;
                }
            }
            return LOCKED;
        }

        /** For whom a HAND WAITS, as bits. */
        private int waitsFor(int hand) {
            int kind = doing(hand);
            switch (kind) {
                case SEND:
                case MEET:
                case WAIT:
                    return 1 << get(hand, OTHER);
                case ANY:
                    return unended() & ~(1 << hand);
                case DONE:
                    return words.begunBy(hand);
                case ALL:
                case SUM:
                    return notDoing(kind);
                default:
                    return 0;
            }
        }
    }

    /** All STATES that are REACHED, and the ENDINGS in their order. */
    private static final class Space {
        private final Scene scene = new Scene();
        private final int[] rows = new int[STATES * SPAN];
        private final int[] pool = new int[POOL * WORD_WIDTH];
        // Where the WORDS of a STATE begin in the pool; they end where the next one's begin.
        private final int[] start = new int[STATES + 1];
        private final int[] hashes = new int[STATES];
        // A STATE's number and 1, at its hash or behind it; 0: free.
        private final int[] table = new int[TABLE];
        private final int[] kinds = new int[STATES];
        private final int[] order = new int[STATES];
        private final int[] takes = new int[HANDS * STEPS];
        private int states;
        private int found;
        private boolean spent;
        private boolean ready;
        private int n;
        private int room;
        private long out;

        private void forget() {
            ready = false;
        }

        private void explore(Script script, int n, int room, long out) {
            if (ready && n == this.n && room == this.room && out == this.out) {
                return;
            }
            this.n = n;
            this.room = room;
            this.out = out;
            ready = true;
            states = 0;
            found = 0;
            spent = false;
            put(start, 0, 0);
            Arrays.fill(table, 0);
            Arrays.fill(takes, 0);
            scene.begin(script, n, room, 0, 0, out);
            keep();
            for (int state = 0; state < STATES && state < states && !spent; state++) {
                visit(state);
            }
        }

        private void visit(int state) {
            load(state);
            boolean moved = false;
            for (int hand = 0; hand < n; hand++) {
                int sources = scene.doing(hand) == ANY ? n : 1;
                for (int source = 0; source < sources && !spent; source++) {
                    if (scene.can(hand, source)) {
                        scene.move(hand, source);
                        scene.goOn();
                        noteTaker();
                        keep();
                        load(state);
                        moved = true;
                    }
                }
            }
            if (!moved) {
                put(kinds, state, scene.outcome());
                addEnding(state);
            }
        }

        private void noteTaker() {
            if (scene.anyHand != NONE) {
                int place = scene.anyHand * STEPS + scene.anyStep;
                put(takes, place, at(takes, place) | 1 << scene.anyFrom);
            }
        }

        // ---- STATES

        private void load(int state) {
            if (state < 0 || state >= STATES) {
                return;
            }
            System.arraycopy(rows, state * SPAN, scene.rows, 0, SPAN);
            Words words = scene.words;
            int first = at(start, state);
            words.many = at(start, state + 1) - first;
            for (int i = 0; i < words.many; i++) {
                int place = (first + i) * WORD_WIDTH;
                put(words.tag, i, at(pool, place));
                put(words.mark, i, at(pool, place + 1));
                put(words.value, i, at(pool, place + 2));
                put(words.there, i, 0);
            }
        }

        /** Keeps the scene's STATE, if it is new and not one too many. */
        private void keep() {
            int hash = hashOfScene();
            int slot = slotOf(hash);
            if (at(table, slot) != 0) {
                return;
            }
            if (states >= STATES || at(start, states) + scene.words.many > POOL) {
                spent = true;
                return;
            }
            put(table, slot, states + 1);
            put(hashes, states, hash);
            store(states);
            states++;
        }

        private void store(int state) {
            if (state < 0 || state >= STATES) {
                return;
            }
            System.arraycopy(scene.rows, 0, rows, state * SPAN, SPAN);
            Words words = scene.words;
            int first = at(start, state);
            for (int i = 0; i < words.many; i++) {
                int place = (first + i) * WORD_WIDTH;
                put(pool, place, at(words.tag, i));
                put(pool, place + 1, at(words.mark, i));
                put(pool, place + 2, at(words.value, i));
            }
            put(start, state + 1, first + words.many);
        }

        private int hashOfScene() {
            int hash = scene.words.many;
            for (int i = 0; i < n * WIDTH; i++) {
                hash = hash * 31 + at(scene.rows, i);
            }
            for (int i = 0; i < scene.words.many; i++) {
                hash = hash * 31 + at(scene.words.tag, i);
                hash = hash * 31 + at(scene.words.mark, i);
                hash = hash * 31 + at(scene.words.value, i);
            }
            return hash ^ hash >>> 15;
        }

        /** The place in the table of the scene's STATE, or the free one where it would stand. */
        private int slotOf(int hash) {
            int slot = hash & TABLE - 1;
            for (int i = 0; i < TABLE; i++) {
                int state = at(table, slot) - 1;
                if (state < 0 || at(hashes, state) == hash && isScene(state)) {
                    return slot;
                }
                slot = slot + 1 & TABLE - 1;
            }
            return slot;
        }

        private boolean isScene(int state) {
            for (int i = 0; i < n * WIDTH; i++) {
                if (at(rows, state * SPAN + i) != at(scene.rows, i)) {
                    return false;
                }
            }
            return hasWordsOfScene(at(start, state), at(start, state + 1));
        }

        private boolean hasWordsOfScene(int first, int end) {
            Words words = scene.words;
            if (end - first != words.many) {
                return false;
            }
            for (int i = 0; i < words.many; i++) {
                int place = (first + i) * WORD_WIDTH;
                if (at(pool, place) != at(words.tag, i) || at(pool, place + 1) != at(words.mark, i)
                        || at(pool, place + 2) != at(words.value, i)) {
                    return false;
                }
            }
            return true;
        }

        // ---- ENDINGS

        private void addEnding(int state) {
            int place = 0;
            while (place < found && compare(at(order, place), state) < 0) {
                place++;
            }
            if (place < found && compare(at(order, place), state) == 0) {
                return;
            }
            for (int i = found; i > place; i--) {
                put(order, i, at(order, i - 1));
            }
            put(order, place, state);
            found++;
        }

        private int compare(int one, int two) {
            int by = Integer.compare(at(kinds, one), at(kinds, two));
            for (int hand = 0; hand < n && by == 0; hand++) {
                by = Integer.compare(toldOf(one, hand), toldOf(two, hand));
            }
            if (by == 0) {
                by = Integer.compare(wordsOf(one), wordsOf(two));
            }
            return by != 0 ? by : Integer.compare(unendedOf(one), unendedOf(two));
        }

        private int toldOf(int state, int hand) {
            return at(rows, state * SPAN + hand * WIDTH + TOLD);
        }

        private int wordsOf(int state) {
            return at(start, state + 1) - at(start, state);
        }

        private int unendedOf(int state) {
            int bits = 0;
            for (int hand = 0; hand < n; hand++) {
                if (at(rows, state * SPAN + hand * WIDTH + AT_STEP) != NONE) {
                    bits |= 1 << hand;
                }
            }
            return bits;
        }

        private int kindOfEnding(int i) {
            return at(kinds, at(order, i));
        }

        private int endingsOf(int kind) {
            int many = 0;
            for (int i = 0; i < found; i++) {
                if (kind == NONE || kindOfEnding(i) == kind) {
                    many++;
                }
            }
            return many;
        }

        private int tellEnding(int i, int what) {
            int state = at(order, i);
            switch (what) {
                case 0:
                    return kindOfEnding(i);
                case 1:
                    return wordsOf(state);
                case 2:
                    return unendedOf(state);
                default:
                    return toldOf(state, what - 4);
            }
        }

        /** ENDINGS are ordered: those that are WHOLE come first, those that are LOCKED last. */
        private boolean locks() {
            return !spent && found > 0 && kindOfEnding(found - 1) == LOCKED;
        }

        private boolean wholeUnlike() {
            for (int i = 1; i < found && kindOfEnding(i) == WHOLE; i++) {
                for (int hand = 0; hand < n; hand++) {
                    if (toldOf(at(order, i), hand) != toldOf(at(order, 0), hand)) {
                        return true;
                    }
                }
            }
            return false;
        }

        private int takenFrom(int hand, int step) {
            return at(takes, hand * STEPS + step);
        }
    }

    /** A PLAY, and what is told behind it. */
    private static final class Game {
        private final Scene scene = new Scene();
        private int many;
        private long choices;
        private final int[] madeRow = new int[HANDS * STEPS];
        private int made;
        private final int[] ringRow = new int[HANDS];
        private int ringSize;

        private int run(Script script, int n, int room, int near, int wide, int many, long choices) {
            this.many = many;
            this.choices = choices;
            made = 0;
            scene.begin(script, n, room, near, wide, 0);
            for (int i = 0; i < MOVES; i++) {
                if (!moveLeast()) {
                    break;
                }
            }
            findRing();
            return scene.outcome();
        }

        private boolean moveLeast() {
            int told = made < many ? choiceOf(choices, made) : NONE;
            for (int hand = 0; hand < scene.n; hand++) {
                boolean barred = told != NONE && told != hand && scene.meetsAny(hand);
                int source = told != NONE ? told : scene.leastSource(hand);
                if (!barred && scene.can(hand, source)) {
                    scene.move(hand, source);
                    scene.goOn();
                    noteChoice();
                    return true;
                }
            }
            return false;
        }

        private void noteChoice() {
            if (scene.anyHand != NONE) {
                put(madeRow, made, scene.anyFrom);
                made++;
            }
        }

        private static int lowest(int bits) {
            for (int hand = 0; hand < HANDS; hand++) {
                if ((bits >> hand & 1) == 1) {
                    return hand;
                }
            }
            return NONE;
        }

        private void findRing() {
            ringSize = 0;
            int size = 0;
            int hand = lowest(scene.unended());
            for (int i = 0; i <= HANDS && hand != NONE && !scene.hasEnded(hand); i++) {
                int again = placeInRing(hand, size);
                if (again != NONE) {
                    keepRing(again, size);
                    return;
                }
                put(ringRow, size, hand);
                size++;
                hand = lowest(scene.waitsFor(hand));
            }
        }

        private int placeInRing(int hand, int size) {
            for (int i = 0; i < size; i++) {
                if (at(ringRow, i) == hand) {
                    return i;
                }
            }
            return NONE;
        }

        /** THE RING begins at the HAND that came again; those ahead of it only led there. */
        private void keepRing(int first, int size) {
            ringSize = size - first;
            for (int i = 0; i < ringSize; i++) {
                put(ringRow, i, at(ringRow, first + i));
            }
        }

        private int tellHand(int hand, int what) {
            switch (what) {
                case 0:
                    return at(scene.clock, hand);
                case 1:
                    return at(scene.waited, hand);
                case 2:
                    return scene.get(hand, AT_STEP);
                case 3:
                    return scene.get(hand, TOLD);
                case 4:
                    return scene.get(hand, FROM);
                case 5:
                    return scene.waitsFor(hand);
                case 6:
                    return scene.get(hand, STOPS);
                default:
                    return scene.get(hand, FIRST_VALUE + what - 8);
            }
        }
    }
}
