import java.util.Arrays;
import java.util.NoSuchElementException;

/**
 * A house of marks, as ../shared/DOC.md promises it. This outer class only looks at arguments and
 * says what a call ends; the work is done by the classes inside. Names and texts (8 bytes at most)
 * are held in one long each, ELEMENTS in four bits.
 */
public final class MarkHouse {
    public static final int NONE = -1;

    private static final int TAPE_MOST = 4000;
    private static final int OUT_MOST = 8000;
    private static final int ORDERS_MOST = 4;
    private static final int ELEMENTS_MOST = 12;
    private static final int KINDS_MOST = 12;
    private static final int MEMBERS_MOST = 4;
    private static final int MAKERS_MOST = 6;
    private static final int CLASSES_MOST = 12;
    private static final int FIELDS_MOST = 8;
    private static final int METHODS_MOST = 8;
    private static final int PARAMS_MOST = 4;
    private static final int LOCALS_MOST = 8;
    private static final int STACK_MOST = 8;
    private static final int SLOTS = LOCALS_MOST + STACK_MOST;
    private static final int ACTS_MOST = 40;
    private static final int MARKS_MOST = 20;
    private static final int PAIRS_MOST = 4;
    private static final int SIGNS_MOST = 8;
    private static final int DIGITS_MOST = 9;

    // An ACT has four bytes at least, so a tape of 4000 has no more than 1000 of them.
    private static final int ACT_ROOM = 1024;
    // 'call A.b;' is nine bytes for four ERRORS: fewer than 1800 in one tape.
    private static final int ERROR_ROOM = 2048;
    // 512 calls bring about 10000 bytes: some 2000 MARKS in a text and 1300 in FILES, 240 by MAKERS.
    private static final int MARK_ROOM = 4096;
    private static final int PLACES = 100 * CLASSES_MOST;
    private static final int KIND_ROWS = PLACES;
    private static final int MAKER_ROWS = KIND_ROWS + KINDS_MOST;
    private static final int ACT_ROWS = MAKER_ROWS + MAKERS_MOST;
    private static final int ROWS = ACT_ROWS + ACT_ROOM;
    // Far above what any fixpoint here needs; it only makes the end of a loop plain.
    private static final int MANY_TIMES = 1000000;

    private static final int ORDER_BASE = 100;

    private static final int AT_CLASS = 0;
    private static final int AT_FIELD = 1;
    private static final int AT_METHOD = 2;
    private static final int AT_PARAM = 3;
    private static final int ALL_SORTS = 15;
    private static final int BEHIND_IS = 4;
    private static final int BEHIND_ADDS = 5;
    private static final int BEHIND_PUSH = 6;

    private static final int INT_VALUE = 1;
    private static final int TEXT_VALUE = 2;
    private static final int NAME_VALUE = 3;
    private static final int WARPED = -2;
    private static final int MISSING = -3;

    // Sorts of LEXEMES: these, a sign's own byte, or a WORD's number.
    private static final int END = 0;
    private static final int NAME = 1;
    private static final int NUMBER = 2;
    private static final int TEXT = 3;
    private static final String SIGNS = ":;,.=<(){}@-";
    private static final String WORDS = "order kind class field method param maker adds on heirs many no int text push read load store get set call ret add sub mul dup pop jump zero is as";
    private static final int WORD_COUNT = 31;
    private static final int ORDER = 200;
    private static final int KIND = 201;
    private static final int CLASS = 202;
    private static final int FIELD = 203;
    private static final int METHOD = 204;
    private static final int PARAM = 205;
    private static final int MAKER = 206;
    private static final int ADDS = 207;
    private static final int ON = 208;
    private static final int HEIRS = 209;
    private static final int MANY = 210;
    private static final int NO = 211;
    private static final int INT = 212;
    private static final int TEXT_WORD = 213;
    private static final int PUSH = 214;
    private static final int READ = 215;
    private static final int LOAD = 216;
    private static final int STORE = 217;
    private static final int GET = 218;
    private static final int SET = 219;
    private static final int CALL = 220;
    private static final int RET = 221;
    private static final int ADD = 222;
    private static final int SUB = 223;
    private static final int MUL = 224;
    private static final int DUP = 225;
    private static final int POP = 226;
    private static final int JUMP = 227;
    private static final int ZERO = 228;
    private static final int IS = 229;
    private static final int AS = 230;
    // What push .. as take from the stack and give to it (what call takes, its METHOD tells).
    private static final int[] TAKES = {0, 0, 0, 1, 0, 1, 0, 1, 2, 2, 2, 1, 1, 0, 1, 1, 1};
    private static final int[] GIVES = {1, 1, 1, 0, 1, 0, 1, 0, 1, 1, 1, 2, 0, 0, 0, 1, 1};

    private final Cutter cutter;
    private final Program program;
    private final Code code;
    private final Marks marks;
    private final Reader reader;
    private final Effects effects;
    private final Flow flow;
    private final Run run;
    private final Wiring wiring;
    private final Teller teller;

    public MarkHouse() {
        cutter = new Cutter();
        program = new Program();
        code = new Code(program);
        marks = new Marks();
        reader = new Reader(cutter, program, code, marks);
        effects = new Effects(program, code, marks);
        flow = new Flow(program, code, effects);
        run = new Run(program, code, effects);
        wiring = new Wiring(program, marks, effects);
        teller = new Teller(cutter.words, program, code, marks, effects);
    }

    public int feed(int a, int b, int c, int d, int e) {
        if (cutter.length + 20 > TAPE_MOST) {
            return NONE;
        }
        cutter.addWord(a);
        cutter.addWord(b);
        cutter.addWord(c);
        cutter.addWord(d);
        cutter.addWord(e);
        return cutter.length;
    }

    public int end(int n) {
        if (n < 0 || n > cutter.length) {
            return NONE;
        }
        cutter.length = n;
        return n;
    }

    public int out(int i) {
        if (i < 0 || i >= teller.length) {
            return NONE;
        }
        return teller.bytes[i] & 255;
    }

    public int compile() throws IllegalArgumentException {
        forget();
        reader.cutTape();
        reader.readFront();
        reader.readClasses();
        reader.settleNames();
        reader.settleDepths();
        program.there = true;
        effects.startAnew();
        return program.classCount;
    }

    public int fault(int what) {
        if (what == 0) {
            return reader.faultKind;
        }
        return what == 1 ? reader.faultPlace : NONE;
    }

    public int tell() {
        return program.there ? teller.writeProgram() : NONE;
    }

    public int size(int what, int n) {
        if (!program.there) {
            return NONE;
        }
        if (what == 10) {
            return code.sortOf(n) < 0 ? NONE : marks.size[n];
        }
        if (what == 8 || what == 9) {
            return code.sortOf(n) == AT_METHOD ? methodSize(what, code.methodAt(n)) : NONE;
        }
        return program.count(what, n);
    }

    private int methodSize(int what, int method) {
        return what == 8 ? code.params[method] : code.acts[method];
    }

    public int order(int order, int a, int b, int what) {
        if (!program.isOrder(order)) {
            return NONE;
        }
        Order it = program.orders[order];
        if (a < 0 || a >= it.count || b < 0 || b >= it.count) {
            return NONE;
        }
        switch (what) {
            case 0:
                return it.isBelow(a, b) ? 1 : 0;
            case 1:
                return it.joinOf(a, b);
            case 2:
                return it.meetOf(a, b);
            default:
                return NONE;
        }
    }

    public int mark(int place, int i, int what) {
        if (code.sortOf(place) < 0 || i < 0 || i >= marks.size[place]) {
            return NONE;
        }
        int m = marks.markAt(place, i);
        switch (what) {
            case 0:
                return marks.target[m];
            case 1:
                return marks.counts[m] ? 1 : 0;
            case 2:
                return marks.isNo(m) ? 1 : 0;
            case 3:
                return marks.isNo(m) ? 0 : marks.pairs[m];
            default:
                return NONE;
        }
    }

    public int give(int place) {
        int length = cutter.length;
        cutter.length = 0;
        int sort = code.sortOf(place);
        if (sort < 0) {
            return NONE;
        }
        reader.readFile(length, NONE);
        if (reader.fileWrong >= 0) {
            return -1000 - reader.fileWrong;
        }
        if ((cutter.tape[0] & 255) > marks.roomWithout(place)) {
            return NONE;
        }
        marks.clearRow(place);
        reader.readFile(length, place);
        effects.settleRow(place, sort);
        forget();
        return marks.size[place];
    }

    public int file(int place) {
        return code.sortOf(place) < 0 ? NONE : teller.writeFile(place);
    }

    public int effective(int place, int kind) {
        return isAskable(place, kind) ? effects.seek(place, kind) : NONE;
    }

    public int whence(int place, int kind, int what) {
        if (!isAskable(place, kind) || effects.seek(place, kind) == 0) {
            return NONE;
        }
        switch (what) {
            case 0:
                return effects.seenPlace;
            case 1:
                return effects.seenSteps;
            case 2:
                return effects.seenGiven >= 0 ? 1 : 0;
            case 3:
                return effects.clashes(kind) ? 1 : 0;
            default:
                return NONE;
        }
    }

    public int ask(int place, int kind, int i, int member) {
        if (!isAskable(place, kind) || i < 0 || i >= effects.seek(place, kind)) {
            return NONE;
        }
        int m = effects.seenMark(kind, i);
        if (kind >= ORDER_BASE) {
            return member == 0 ? teller.writeElement(m, program.orders[kind - ORDER_BASE]) : NONE;
        }
        Kind it = program.kinds[kind];
        return member >= 0 && member < it.count ? teller.writeMember(m, it, member) : NONE;
    }

    private boolean isAskable(int place, int kind) {
        return code.sortOf(place) >= 0 && program.isTarget(kind);
    }

    public int markOf(int place, int order) {
        if (code.sortOf(place) <= AT_CLASS || !program.isOrder(order)) {
            return NONE;
        }
        effects.settle();
        return effects.theMark(place, order);
    }

    public int rounds() {
        if (!program.there) {
            return NONE;
        }
        int made = effects.makeRounds();
        forget();
        return made;
    }

    public int flow(int order) {
        if (!program.isOrder(order)) {
            return NONE;
        }
        effects.settle();
        flow.follow(order);
        flow.stepCount = 0;
        return flow.errorCount;
    }

    public int error(int i, int what) {
        return flow.isError(i) ? flow.tellError(i, what) : NONE;
    }

    public int way(int i) {
        return flow.isError(i) ? flow.seekWay(i) : NONE;
    }

    public int step(int k) {
        return k < 0 || k >= flow.stepCount ? NONE : flow.steps[k];
    }

    public int state(int place, int act, int slot) {
        if (flow.order < 0 || code.sortOf(place) != AT_METHOD) {
            return NONE;
        }
        return flow.tellState(code.methodAt(place), act, slot);
    }

    public int find(int order) {
        if (!program.isOrder(order)) {
            return NONE;
        }
        forget();
        effects.settle();
        int open = effects.lowerFound(order);
        flow.raiseFound(order);
        flow.forget();
        return open;
    }

    public boolean plain(int order) {
        if (!program.isOrder(order)) {
            return false;
        }
        forget();
        effects.fillFound(order, program.orders[order].top);
        return true;
    }

    public int weave() {
        if (!program.there) {
            return NONE;
        }
        effects.settle();
        code.clearChecks();
        int before = flow.order;
        int woven = 0;
        for (int order = 0; order < program.orderCount; order++) {
            flow.follow(order);
            woven += flow.putChecks();
        }
        // The latest flow() stands over weave(): its STATES and ERRORS come back as they were.
        if (before >= 0) {
            flow.follow(before);
        } else {
            flow.forget();
        }
        return woven;
    }

    public int code(int place, boolean woven) {
        return code.sortOf(place) == AT_METHOD ? teller.writeCode(code.methodAt(place), woven) : NONE;
    }

    public boolean argument(int k, int v) {
        if (k < 0 || k >= PARAMS_MOST) {
            return false;
        }
        run.arguments[k] = v;
        return true;
    }

    public int input(int v) {
        return run.addInput(v);
    }

    public void begin(int place, boolean woven) throws IllegalStateException, NoSuchElementException {
        if (!program.there) {
            throw new IllegalStateException("no program");
        }
        if (code.sortOf(place) != AT_METHOD) {
            throw new NoSuchElementException("no such METHOD");
        }
        effects.settle();
        run.start(code.methodAt(place), woven);
    }

    public int go(int n) throws IllegalArgumentException, IllegalStateException {
        if (n < 1 || n > 10000) {
            throw new IllegalArgumentException("not 1 .. 10000 ACTS");
        }
        if (!run.isUnderWay()) {
            throw new IllegalStateException("no run is under way");
        }
        return run.goOn(n);
    }

    public int run(int what) {
        return run.tellTally(what);
    }

    public int truth(int order) {
        return program.isOrder(order) ? run.truthOf(order) : NONE;
    }

    public int wire() {
        return program.there ? wiring.makeAll() : NONE;
    }

    public int wired(int what) {
        return wiring.tellWired(what);
    }

    /** What a change of the program or its MARKS ends: CHECKS, the run, ERRORS, WAY, STATES, wire(). */
    private void forget() {
        code.clearChecks();
        run.stop();
        flow.forget();
        wiring.forget();
    }

    /** Up to eight signs, none of them 0, in one long. */
    private static long pack(String signs) {
        long packed = 0;
        for (int i = 0; i < signs.length(); i++) {
            packed = packed << 8 | signs.charAt(i);
        }
        return packed;
    }

    private static boolean isLetter(int b) {
        return b >= 'a' && b <= 'z' || b >= 'A' && b <= 'Z';
    }

    private static boolean isDigit(int b) {
        return b >= '0' && b <= '9';
    }

    private static boolean isTextSign(int b) {
        return b >= 32 && b <= 126 && b != '\'';
    }

    private static int nibble(long bits, int slot) {
        return (int) (bits >>> 4 * slot) & 15;
    }

    private static long withNibble(long bits, int slot, int element) {
        return bits & ~(15L << 4 * slot) | (long) element << 4 * slot;
    }

    /** THE TAPE, and the LEXEMES into which it is cut. */
    private static final class Cutter {
        final byte[] tape = new byte[TAPE_MOST];
        int length;
        final int[] sort = new int[TAPE_MOST + 1];
        final int[] place = new int[TAPE_MOST + 1];
        final long[] value = new long[TAPE_MOST + 1];
        final long[] words = new long[WORD_COUNT];
        private int count;
        private int at;

        Cutter() {
            int word = 0;
            for (int i = 0; i < WORDS.length() && word < WORD_COUNT; i++) {
                if (WORDS.charAt(i) == ' ') {
                    word++;
                } else {
                    words[word] = words[word] << 8 | WORDS.charAt(i);
                }
            }
        }

        void addWord(int four) {
            for (int shift = 24; shift >= 0 && length < TAPE_MOST; shift -= 8) {
                tape[length++] = (byte) (four >> shift);
            }
        }

        /** Cuts all: NONE, or the place of the first wrong sign. The last LEXEME is END. */
        int cutAll() {
            at = 0;
            count = 0;
            for (int k = 0; k <= TAPE_MOST; k++) {
                skipBlanks();
                place[count] = at;
                if (at >= length) {
                    sort[count] = END;
                    return NONE;
                }
                if (!cutOne()) {
                    return place[count];
                }
                count++;
            }
            return NONE;
        }

        private void skipBlanks() {
            while (at < length && (tape[at] == 32 || tape[at] == 10)) {
                at++;
            }
        }

        private boolean cutOne() {
            int b = tape[at] & 255;
            if (isLetter(b)) {
                return cutName();
            }
            if (isDigit(b)) {
                return cutNumber();
            }
            if (b == '\'') {
                return cutText();
            }
            sort[count] = b;
            at++;
            return SIGNS.indexOf((char) b) >= 0;
        }

        private boolean cutName() {
            int from = at;
            long name = 0;
            while (at < length && (isLetter(tape[at]) || isDigit(tape[at]))) {
                name = name << 8 | tape[at];
                at++;
            }
            value[count] = name;
            sort[count] = sortOfName(name);
            return at - from <= SIGNS_MOST;
        }

        private int sortOfName(long name) {
            for (int w = 0; w < WORD_COUNT; w++) {
                if (words[w] == name) {
                    return ORDER + w;
                }
            }
            return NAME;
        }

        private boolean cutNumber() {
            int from = at;
            long number = 0;
            while (at < length && isDigit(tape[at])) {
                number = number * 10 + tape[at] - '0';
                at++;
            }
            value[count] = number;
            sort[count] = NUMBER;
            return at - from <= DIGITS_MOST;
        }

        private boolean cutText() {
            int from = ++at;
            long text = 0;
            while (at < length && isTextSign(tape[at])) {
                text = text << 8 | tape[at];
                at++;
            }
            value[count] = text;
            sort[count] = TEXT;
            boolean ends = at < length && tape[at] == '\'' && at - from <= SIGNS_MOST;
            at++;
            return ends;
        }
    }

    /** One ORDER; rows of bits tell who is BELOW whom. */
    private static final class Order {
        long name;
        int count;
        int top;
        int bottom;
        final long[] element = new long[ELEMENTS_MOST];
        final int[] up = new int[ELEMENTS_MOST];
        final int[] down = new int[ELEMENTS_MOST];
        private final int[] join = new int[ELEMENTS_MOST * ELEMENTS_MOST];
        private final int[] meet = new int[ELEMENTS_MOST * ELEMENTS_MOST];

        void clear(long itsName) {
            name = itsName;
            count = 0;
        }

        int elementOf(long wanted) {
            for (int e = 0; e < count; e++) {
                if (element[e] == wanted) {
                    return e;
                }
            }
            return NONE;
        }

        int addElement(long itsName) {
            element[count] = itsName;
            up[count] = 1 << count;
            return count++;
        }

        boolean isBelow(int a, int b) {
            return (up[a] >> b & 1) != 0;
        }

        int joinOf(int a, int b) {
            return join[a * ELEMENTS_MOST + b];
        }

        int meetOf(int a, int b) {
            return meet[a * ELEMENTS_MOST + b];
        }

        /** Whether nothing but a and b themselves is between them, and a is below b. */
        boolean isNextBelow(int a, int b) {
            return a != b && isBelow(a, b) && (up[a] & down[b]) == (1 << a | 1 << b);
        }

        /** Makes the rows and tables from the pairs told; false if this is no ORDER. */
        boolean settle() {
            close();
            for (int a = 0; a < count; a++) {
                for (int b = 0; b < count; b++) {
                    int above = least(up[a] & up[b], up);
                    int below = least(down[a] & down[b], down);
                    if (above < 0 || below < 0 || a != b && isBelow(a, b) && isBelow(b, a)) {
                        return false;
                    }
                    join[a * ELEMENTS_MOST + b] = above;
                    meet[a * ELEMENTS_MOST + b] = below;
                }
            }
            top = 0;
            bottom = 0;
            for (int e = 1; e < count; e++) {
                top = joinOf(top, e);
                bottom = meetOf(bottom, e);
            }
            return true;
        }

        private void close() {
            for (int middle = 0; middle < count; middle++) {
                for (int a = 0; a < count; a++) {
                    if (isBelow(a, middle)) {
                        up[a] |= up[middle];
                    }
                }
            }
            for (int b = 0; b < count; b++) {
                down[b] = 0;
                for (int a = 0; a < count; a++) {
                    down[b] |= isBelow(a, b) ? 1 << a : 0;
                }
            }
        }

        private int least(int all, int[] rows) {
            for (int e = 0; e < count; e++) {
                if ((all >> e & 1) != 0 && (all & ~rows[e]) == 0) {
                    return e;
                }
            }
            return NONE;
        }
    }

    /** One KIND of MARKS. */
    private static final class Kind {
        long name;
        int count;
        final long[] member = new long[MEMBERS_MOST];
        final int[] sort = new int[MEMBERS_MOST];
        final boolean[] hasDefault = new boolean[MEMBERS_MOST];
        final long[] byDefault = new long[MEMBERS_MOST];
        int on;
        boolean heirs;
        boolean many;
        // The MARK that one of this KIND GIVES, of each KIND and then of each ORDER; NONE if none.
        final int[] gives = new int[KINDS_MOST + ORDERS_MOST];

        void clear(long itsName) {
            name = itsName;
            count = 0;
            on = ALL_SORTS;
            heirs = false;
            many = false;
            Arrays.fill(gives, NONE);
        }

        int memberOf(long wanted) {
            for (int j = 0; j < count; j++) {
                if (member[j] == wanted) {
                    return j;
                }
            }
            return NONE;
        }

        int givenOf(int target) {
            return gives[target >= ORDER_BASE ? KINDS_MOST + target - ORDER_BASE : target];
        }

        void giveAlso(int target, int mark) {
            int slot = target >= ORDER_BASE ? KINDS_MOST + target - ORDER_BASE : target;
            if (gives[slot] < 0) {
                gives[slot] = mark;
            }
        }

        /** What the KIND of one of its MARKS gives, it gives too, if nothing ahead gives one. */
        void giveInTurn(Kind other) {
            for (int slot = 0; slot < gives.length; slot++) {
                if (gives[slot] < 0) {
                    gives[slot] = other.gives[slot];
                }
            }
        }
    }

    /** ORDERS, KINDS, MAKERS, CLASSES and FIELDS; a TARGET is a KIND's number or ORDER_BASE and an ORDER's. */
    private static final class Program {
        boolean there;
        final Order[] orders = new Order[ORDERS_MOST];
        int orderCount;
        final Kind[] kinds = new Kind[KINDS_MOST];
        int kindCount;
        final long[] makerName = new long[MAKERS_MOST];
        final int[] makerKind = new int[MAKERS_MOST];
        int makerCount;
        final long[] className = new long[CLASSES_MOST];
        final int[] parent = new int[CLASSES_MOST];
        int classCount;
        final int[] fieldCount = new int[CLASSES_MOST];
        final long[] fieldName = new long[CLASSES_MOST * FIELDS_MOST];
        final int[] fieldNumber = new int[CLASSES_MOST * FIELDS_MOST];
        final int[] methodCount = new int[CLASSES_MOST];

        Program() {
            for (int o = 0; o < ORDERS_MOST; o++) {
                orders[o] = new Order();
            }
            for (int k = 0; k < KINDS_MOST; k++) {
                kinds[k] = new Kind();
            }
        }

        void clear() {
            there = false;
            orderCount = 0;
            kindCount = 0;
            makerCount = 0;
            classCount = 0;
        }

        boolean isOrder(int order) {
            return there && order >= 0 && order < orderCount;
        }

        boolean isTarget(int target) {
            return there && target >= 0 && (target < kindCount || target >= ORDER_BASE && isOrder(target - ORDER_BASE));
        }

        boolean isNamed(long name) {
            return targetOf(name) >= 0 || isMaker(name) || classOf(name) >= 0;
        }

        private boolean isMaker(long name) {
            for (int k = 0; k < makerCount; k++) {
                if (makerName[k] == name) {
                    return true;
                }
            }
            return false;
        }

        int targetOf(long name) {
            int order = orderOf(name);
            return order >= 0 ? ORDER_BASE + order : kindOf(name);
        }

        int orderOf(long name) {
            for (int o = 0; o < orderCount; o++) {
                if (orders[o].name == name) {
                    return o;
                }
            }
            return NONE;
        }

        int kindOf(long name) {
            for (int k = 0; k < kindCount; k++) {
                if (kinds[k].name == name) {
                    return k;
                }
            }
            return NONE;
        }

        int classOf(long name) {
            for (int c = 0; c < classCount; c++) {
                if (className[c] == name) {
                    return c;
                }
            }
            return NONE;
        }

        boolean canStand(int target, int sort) {
            return target >= ORDER_BASE ? sort != AT_CLASS : (kinds[target].on >> sort & 1) != 0;
        }

        boolean isMany(int target) {
            return target < ORDER_BASE && kinds[target].many;
        }

        /** size() but of what belongs to a PLACE. */
        int count(int what, int n) {
            switch (what) {
                case 0:
                    return orderCount;
                case 1:
                    return kindCount;
                case 2:
                    return makerCount;
                case 3:
                    return classCount;
                case 4:
                    return isOrder(n) ? orders[n].count : NONE;
                case 5:
                    return n >= 0 && n < kindCount ? kinds[n].count : NONE;
                case 6:
                    return n >= 0 && n < classCount ? fieldCount[n] : NONE;
                case 7:
                    return n >= 0 && n < classCount ? methodCount[n] : NONE;
                default:
                    return NONE;
            }
        }

        int fieldOf(int c, long name) {
            for (int f = 0; f < fieldCount[c]; f++) {
                if (fieldName[c * FIELDS_MOST + f] == name) {
                    return f;
                }
            }
            return NONE;
        }

        /** The PLACE of the FIELD of this NAME in the CLASS or the nearest PARENT that has one. */
        int nearestField(int c, long name) {
            int owner = c;
            for (int k = 0; k < CLASSES_MOST && owner >= 0; k++) {
                int f = fieldOf(owner, name);
                if (f >= 0) {
                    return 100 * owner + 1 + f;
                }
                owner = parent[owner];
            }
            return NONE;
        }

        /** The CLASS itself for 0, its PARENT for 1 and so on; NONE if there are not so many. */
        int ancestor(int c, int steps) {
            int one = c;
            for (int k = 0; k < steps && one >= 0; k++) {
                one = parent[one];
            }
            return one;
        }

        boolean isHeir(int c, int of) {
            for (int k = 0; k < CLASSES_MOST; k++) {
                if (ancestor(c, k) == of) {
                    return true;
                }
            }
            return false;
        }
    }

    /** METHODS (of CLASS c from number c * METHODS_MOST on) and their ACTS, which stand in one row. */
    private static final class Code {
        final Program program;
        final long[] methodName = new long[CLASSES_MOST * METHODS_MOST];
        final int[] params = new int[CLASSES_MOST * METHODS_MOST];
        final int[] locals = new int[CLASSES_MOST * METHODS_MOST];
        final long[] localName = new long[CLASSES_MOST * METHODS_MOST * LOCALS_MOST];
        final int[] firstAct = new int[CLASSES_MOST * METHODS_MOST];
        final int[] acts = new int[CLASSES_MOST * METHODS_MOST];
        int total;
        final int[] op = new int[ACT_ROOM];
        // The number of push, the LOCAL of load and store, the ELEMENT of is and as, how many call takes.
        final int[] number = new int[ACT_ROOM];
        // The PLACE of get, set, call; the ELEMENTS of push and read, four bits each; the ORDER of is and as.
        final int[] target = new int[ACT_ROOM];
        // The ACT of the METHOD to which jump, zero and is lead; NONE of others.
        final int[] goal = new int[ACT_ROOM];
        final int[] depth = new int[ACT_ROOM];
        // Bit 4 * ORDER + PARAMETER for each CHECK ahead of the ACT.
        final int[] checks = new int[ACT_ROOM];
        final long[] label = new long[ACT_ROOM];
        // The NAMES told, a CLASS or LABEL and a FIELD or METHOD, and where they were told.
        final long[] firstName = new long[ACT_ROOM];
        final long[] secondName = new long[ACT_ROOM];
        final int[] textPlace = new int[ACT_ROOM];
        final int[] firstPlace = new int[ACT_ROOM];
        final int[] secondPlace = new int[ACT_ROOM];

        Code(Program itsProgram) {
            program = itsProgram;
        }

        void clearChecks() {
            Arrays.fill(checks, 0, total, 0);
        }

        /** The sort of a PLACE; NONE if there is none such. */
        int sortOf(int place) {
            int c = place / 100;
            int rest = place % 100;
            if (!program.there || place < 0 || c >= program.classCount) {
                return NONE;
            }
            if (rest == 0) {
                return AT_CLASS;
            }
            if (rest < 20) {
                return rest <= program.fieldCount[c] ? AT_FIELD : NONE;
            }
            if ((rest - 20) / 10 >= program.methodCount[c] || rest % 10 > params[methodAt(place)]) {
                return NONE;
            }
            return rest % 10 == 0 ? AT_METHOD : AT_PARAM;
        }

        /** The number of the METHOD that has the PLACE (it is a METHOD's or a PARAMETER's). */
        int methodAt(int place) {
            return place / 100 * METHODS_MOST + (place % 100 - 20) / 10;
        }

        int placeOf(int method) {
            return method / METHODS_MOST * 100 + 20 + method % METHODS_MOST * 10;
        }

        boolean isMethod(int method) {
            return method % METHODS_MOST < program.methodCount[method / METHODS_MOST];
        }

        int methodCountAll() {
            return program.classCount * METHODS_MOST;
        }

        int methodOf(int c, long name) {
            for (int m = 0; m < program.methodCount[c]; m++) {
                if (methodName[c * METHODS_MOST + m] == name) {
                    return c * METHODS_MOST + m;
                }
            }
            return NONE;
        }

        /** The PLACE of the METHOD of this NAME in the CLASS or the nearest PARENT that has one. */
        int nearestMethod(int c, long name) {
            int owner = c;
            for (int k = 0; k < CLASSES_MOST && owner >= 0; k++) {
                int method = methodOf(owner, name);
                if (method >= 0) {
                    return placeOf(method);
                }
                owner = program.parent[owner];
            }
            return NONE;
        }

        int localOf(int method, long name) {
            for (int k = 0; k < locals[method]; k++) {
                if (localName[method * LOCALS_MOST + k] == name) {
                    return k;
                }
            }
            return NONE;
        }

        int addLocal(int method, long name) {
            localName[method * LOCALS_MOST + locals[method]] = name;
            return locals[method]++;
        }

        int labelled(int method, long name) {
            for (int i = 0; i < acts[method]; i++) {
                if (label[firstAct[method] + i] == name) {
                    return i;
                }
            }
            return NONE;
        }

        /** One more ACT behind those of the METHOD that is being read. */
        int addAct(int method, long itsLabel, int place) {
            int a = total++;
            acts[method]++;
            number[a] = 0;
            target[a] = 0;
            goal[a] = NONE;
            depth[a] = NONE;
            checks[a] = 0;
            label[a] = itsLabel;
            firstName[a] = 0;
            secondName[a] = 0;
            textPlace[a] = place;
            return a;
        }

        int takes(int a) {
            return op[a] == CALL ? number[a] : TAKES[op[a] - PUSH];
        }

        int gives(int a) {
            return GIVES[op[a] - PUSH];
        }

        boolean goesOn(int a) {
            return op[a] != RET && op[a] != JUMP;
        }

        /** How many values of the ACT are WANTED to be BELOW a MARK. */
        int wants(int a) {
            if (op[a] == CALL) {
                return number[a];
            }
            return op[a] == SET || op[a] == RET ? 1 : 0;
        }

        /** The PLACE whose MARK is WANTED of value k of the ACT. */
        int wantedPlace(int method, int a, int k) {
            if (op[a] == RET) {
                return placeOf(method);
            }
            return op[a] == CALL ? target[a] + 1 + k : target[a];
        }

        int wantedSlot(int a, int k) {
            return LOCALS_MOST + depth[a] - wants(a) + k;
        }
    }

    /** Rows of MARKS: of PLACES, of KINDS behind =, of MAKERS, of push and read. */
    private static final class Marks {
        final long[] name = new long[MARK_ROOM];
        final int[] target = new int[MARK_ROOM];
        // How many PAIRS; NONE of no.
        final int[] pairs = new int[MARK_ROOM];
        final boolean[] counts = new boolean[MARK_ROOM];
        final int[] next = new int[MARK_ROOM];
        final long[] pairName = new long[MARK_ROOM * PAIRS_MOST];
        final byte[] pairSort = new byte[MARK_ROOM * PAIRS_MOST];
        final long[] pairValue = new long[MARK_ROOM * PAIRS_MOST];
        final int[] first = new int[ROWS];
        final int[] last = new int[ROWS];
        final int[] size = new int[ROWS];
        private int used;
        private int free = NONE;
        private int live;

        void clearAll() {
            used = 0;
            free = NONE;
            live = 0;
            Arrays.fill(size, 0);
        }

        void clearRow(int row) {
            if (size[row] > 0) {
                next[last[row]] = free;
                free = first[row];
                live -= size[row];
                size[row] = 0;
            }
        }

        int roomWithout(int row) {
            return MARK_ROOM - live + size[row];
        }

        /** A new MARK behind those of the row; NONE if there is no room (no 512 calls get there). */
        int append(int row, long itsName) {
            int m = free >= 0 ? free : used;
            if (m >= MARK_ROOM) {
                return NONE;
            }
            if (free >= 0) {
                free = next[m];
            } else {
                used++;
            }
            if (size[row] == 0) {
                first[row] = m;
            } else {
                next[last[row]] = m;
            }
            last[row] = m;
            size[row]++;
            live++;
            next[m] = NONE;
            name[m] = itsName;
            target[m] = NONE;
            pairs[m] = 0;
            counts[m] = true;
            return m;
        }

        void addPair(int m, long itsName, int sort, long value) {
            if (pairs[m] >= 0 && pairs[m] < PAIRS_MOST) {
                int p = m * PAIRS_MOST + pairs[m];
                pairName[p] = itsName;
                pairSort[p] = (byte) sort;
                pairValue[p] = value;
                pairs[m]++;
            }
        }

        void appendCopy(int row, int of) {
            int m = append(row, name[of]);
            if (m >= 0) {
                target[m] = target[of];
                for (int k = 0; k < pairs[of]; k++) {
                    int p = of * PAIRS_MOST + k;
                    addPair(m, pairName[p], pairSort[p], pairValue[p]);
                }
            }
        }

        boolean isNo(int m) {
            return pairs[m] < 0;
        }

        int markAt(int row, int i) {
            int m = first[row];
            for (int k = 0; k < i; k++) {
                m = next[m];
            }
            return m;
        }

        boolean hasName(int row, long wanted) {
            int m = first[row];
            for (int k = 0; k < size[row]; k++) {
                if (name[m] == wanted) {
                    return true;
                }
                m = next[m];
            }
            return false;
        }

        /** The first PAIR of this NAME; NONE without one. */
        int pairOf(int m, long wanted) {
            for (int k = 0; k < pairs[m]; k++) {
                if (pairName[m * PAIRS_MOST + k] == wanted) {
                    return m * PAIRS_MOST + k;
                }
            }
            return NONE;
        }

        /** The ELEMENT of an ORDER's MARK; NONE if it is WARPED. */
        int elementOf(int m, Order order) {
            int p = pairOf(m, pack("at"));
            return p < 0 || pairSort[p] != NAME_VALUE ? NONE : order.elementOf(pairValue[p]);
        }

        /** The sort of the VALUE of a MEMBER, WARPED or MISSING. */
        int memberSort(int m, Kind kind, int j) {
            int p = pairOf(m, kind.member[j]);
            if (p < 0) {
                return kind.hasDefault[j] ? kind.sort[j] : MISSING;
            }
            return pairSort[p] == kind.sort[j] ? kind.sort[j] : WARPED;
        }

        long memberValue(int m, Kind kind, int j) {
            int p = pairOf(m, kind.member[j]);
            return p < 0 ? kind.byDefault[j] : pairValue[p];
        }
    }

    /** Reads programs from LEXEMES, and FILES from bytes; throws at the first FAULT of a program. */
    private static final class Reader {
        private final Cutter cutter;
        private final Program program;
        private final Code code;
        private final Marks marks;
        int faultKind;
        int faultPlace;
        // Where a FILE is wrong; NONE if it is not.
        int fileWrong;
        private int at;
        private int classNow;
        private int methodNow;
        private int fileAt;
        private int fileLength;

        Reader(Cutter itsCutter, Program itsProgram, Code itsCode, Marks itsMarks) {
            cutter = itsCutter;
            program = itsProgram;
            code = itsCode;
            marks = itsMarks;
        }

        void cutTape() {
            program.clear();
            code.total = 0;
            marks.clearAll();
            faultKind = 0;
            faultPlace = 0;
            at = 0;
            int wrong = cutter.cutAll();
            cutter.length = 0;
            if (wrong >= 0) {
                fail(1, wrong);
            }
        }

        private void fail(int kind, int place) {
            faultKind = kind;
            faultPlace = place;
            throw new IllegalArgumentException("a FAULT");
        }

        private int here() {
            return cutter.place[at];
        }

        private int next() {
            return cutter.sort[at];
        }

        private void pass(int sort) {
            if (cutter.sort[at] != sort) {
                fail(2, here());
            }
            at++;
        }

        private boolean passIf(int sort) {
            boolean stands = cutter.sort[at] == sort;
            at += stands ? 1 : 0;
            return stands;
        }

        /** The NAME that must stand next; it is not passed, for more may be wrong with it. */
        private long nameHere() {
            if (next() != NAME) {
                fail(2, here());
            }
            return cutter.value[at];
        }

        /** Passes a NAME that must be new and not be one too many. */
        private long newName(boolean known, boolean full) {
            long name = nameHere();
            if (known) {
                fail(3, here());
            }
            if (full) {
                fail(6, here());
            }
            at++;
            return name;
        }

        void readFront() {
            for (int k = 0; k < TAPE_MOST && next() == ORDER; k++) {
                readOrder();
            }
            for (int k = 0; k < TAPE_MOST && next() == KIND; k++) {
                readKind();
            }
            for (int k = 0; k < TAPE_MOST && next() == MAKER; k++) {
                readMaker();
            }
        }

        void readClasses() {
            for (int c = 0; c < TAPE_MOST && next() == CLASS; c++) {
                readClassHead();
                for (int k = 0; k < TAPE_MOST && (next() == FIELD || next() == METHOD); k++) {
                    if (next() == FIELD) {
                        readField();
                    } else {
                        readMethodHead();
                        for (int i = 0; i <= ACTS_MOST && (i == 0 || next() != '}'); i++) {
                            readAct();
                        }
                        pass('}');
                    }
                }
                pass('}');
            }
            if (program.classCount == 0 || next() != END) {
                fail(2, here());
            }
        }

        private boolean isNamedHere() {
            return program.isNamed(cutter.value[at]);
        }

        private void readOrder() {
            at++;
            int nameAt = here();
            long name = newName(isNamedHere(), program.orderCount >= ORDERS_MOST);
            Order order = program.orders[program.orderCount];
            order.clear(name);
            pass(':');
            boolean more = true;
            for (int k = 0; k < TAPE_MOST && more; k++) {
                int low = readNewElement(order);
                if (passIf('<')) {
                    order.up[low] |= 1 << readNewElement(order);
                }
                more = passIf(',');
            }
            pass(';');
            if (!order.settle()) {
                fail(4, nameAt);
            }
            program.orderCount++;
        }

        private int readNewElement(Order order) {
            int e = order.elementOf(nameHere());
            if (e < 0 && order.count >= ELEMENTS_MOST) {
                fail(6, here());
            }
            at++;
            return e >= 0 ? e : order.addElement(cutter.value[at - 1]);
        }

        private void readKind() {
            at++;
            long name = newName(isNamedHere(), program.kindCount >= KINDS_MOST);
            Kind kind = program.kinds[program.kindCount];
            kind.clear(name);
            if (passIf('(')) {
                readMembers(kind);
            }
            if (passIf(ON)) {
                readSorts(kind);
            }
            kind.heirs = passIf(HEIRS);
            kind.many = passIf(MANY);
            if (passIf('=')) {
                readSomeMarks(KIND_ROWS + program.kindCount, BEHIND_IS);
                settleGives(kind, KIND_ROWS + program.kindCount);
            }
            pass(';');
            // Only now: a KIND's own MARKS must stand ahead of it.
            program.kindCount++;
        }

        private void readMembers(Kind kind) {
            boolean more = true;
            for (int k = 0; k <= MEMBERS_MOST && more; k++) {
                long name = newName(kind.memberOf(cutter.value[at]) >= 0, kind.count >= MEMBERS_MOST);
                pass(':');
                if (next() != INT && next() != TEXT_WORD) {
                    fail(2, here());
                }
                int sort = next() == INT ? INT_VALUE : TEXT_VALUE;
                at++;
                boolean preset = passIf('=');
                kind.byDefault[kind.count] = preset ? readValue(sort) : 0;
                kind.hasDefault[kind.count] = preset;
                kind.sort[kind.count] = sort;
                kind.member[kind.count] = name;
                kind.count++;
                more = passIf(',');
            }
            pass(')');
        }

        private void readSorts(Kind kind) {
            kind.on = 0;
            for (int k = 0; k < TAPE_MOST && next() >= CLASS && next() <= PARAM; k++) {
                kind.on |= 1 << next() - CLASS;
                at++;
            }
            if (kind.on == 0) {
                fail(2, here());
            }
        }

        private void settleGives(Kind kind, int row) {
            int m = marks.first[row];
            for (int k = 0; k < marks.size[row]; k++) {
                kind.giveAlso(marks.target[m], m);
                m = marks.next[m];
            }
            m = marks.first[row];
            for (int k = 0; k < marks.size[row]; k++) {
                if (marks.target[m] < ORDER_BASE) {
                    kind.giveInTurn(program.kinds[marks.target[m]]);
                }
                m = marks.next[m];
            }
        }

        private void readMaker() {
            at++;
            long name = newName(isNamedHere(), program.makerCount >= MAKERS_MOST);
            pass(':');
            int kind = program.kindOf(nameHere());
            if (kind < 0) {
                fail(5, here());
            }
            at++;
            pass(ADDS);
            readSomeMarks(MAKER_ROWS + program.makerCount, BEHIND_ADDS);
            pass(';');
            program.makerName[program.makerCount] = name;
            program.makerKind[program.makerCount] = kind;
            program.makerCount++;
        }

        private void readClassHead() {
            at++;
            long name = newName(isNamedHere(), program.classCount >= CLASSES_MOST);
            int parent = NONE;
            if (passIf(':')) {
                parent = program.classOf(nameHere());
                if (parent < 0) {
                    fail(5, here());
                }
                at++;
            }
            classNow = program.classCount;
            program.className[classNow] = name;
            program.parent[classNow] = parent;
            program.fieldCount[classNow] = 0;
            program.methodCount[classNow] = 0;
            program.classCount++;
            readMarks(100 * classNow, AT_CLASS);
            pass('{');
        }

        private void readField() {
            at++;
            int f = program.fieldCount[classNow];
            long name = newName(program.fieldOf(classNow, cutter.value[at]) >= 0, f >= FIELDS_MOST);
            program.fieldName[classNow * FIELDS_MOST + f] = name;
            readMarks(100 * classNow + 1 + f, AT_FIELD);
            program.fieldNumber[classNow * FIELDS_MOST + f] = passIf('=') ? (int) readValue(INT_VALUE) : 0;
            pass(';');
            program.fieldCount[classNow]++;
        }

        private void readMethodHead() {
            at++;
            int m = program.methodCount[classNow];
            long name = newName(code.methodOf(classNow, cutter.value[at]) >= 0, m >= METHODS_MOST);
            methodNow = classNow * METHODS_MOST + m;
            code.methodName[methodNow] = name;
            code.params[methodNow] = 0;
            code.locals[methodNow] = 0;
            code.firstAct[methodNow] = code.total;
            code.acts[methodNow] = 0;
            program.methodCount[classNow]++;
            pass('(');
            boolean more = next() != ')';
            for (int k = 0; k <= PARAMS_MOST && more; k++) {
                code.addLocal(methodNow, newName(code.localOf(methodNow, cutter.value[at]) >= 0, k >= PARAMS_MOST));
                code.params[methodNow]++;
                readMarks(code.placeOf(methodNow) + 1 + k, AT_PARAM);
                more = passIf(',');
            }
            pass(')');
            readMarks(code.placeOf(methodNow), AT_METHOD);
            pass('{');
        }

        private void readSomeMarks(int row, int where) {
            if (next() != '@') {
                fail(2, here());
            }
            readMarks(row, where);
        }

        private void readMarks(int row, int where) {
            for (int k = 0; k <= MARKS_MOST && next() == '@'; k++) {
                int m = readMarkName(row, where);
                if (marks.isNo(m)) {
                    continue;
                }
                if (marks.target[m] >= ORDER_BASE) {
                    pass('.');
                    readElement(program.orders[marks.target[m] - ORDER_BASE]);
                    marks.addPair(m, pack("at"), NAME_VALUE, cutter.value[at - 1]);
                } else {
                    readPairs(m, program.kinds[marks.target[m]]);
                }
            }
        }

        private int readMarkName(int row, int where) {
            if (marks.size[row] >= MARKS_MOST) {
                fail(6, here());
            }
            at++;
            boolean no = where < BEHIND_IS && passIf(NO);
            long name = nameHere();
            int target = program.targetOf(name);
            if (target < 0) {
                fail(5, here());
            }
            if (marks.hasName(row, name) && !program.isMany(target)) {
                fail(3, here());
            }
            if (!fits(target, where)) {
                fail(7, here());
            }
            int m = marks.append(row, name);
            if (m < 0) {
                fail(6, here());
            }
            marks.target[m] = target;
            marks.pairs[m] = no ? NONE : 0;
            at++;
            return m;
        }

        private boolean fits(int target, int where) {
            switch (where) {
                case BEHIND_IS:
                    return true;
                case BEHIND_PUSH:
                    return target >= ORDER_BASE;
                case BEHIND_ADDS:
                    return program.canStand(target, AT_CLASS);
                default:
                    return program.canStand(target, where);
            }
        }

        /** Passes an ELEMENT of the ORDER. */
        private int readElement(Order order) {
            int e = order.elementOf(nameHere());
            if (e < 0) {
                fail(5, here());
            }
            at++;
            return e;
        }

        /** The PAIRS of a MARK whose NAME was passed just now, if there are some. */
        private void readPairs(int m, Kind kind) {
            int nameAt = cutter.place[at - 1];
            if (passIf('(')) {
                boolean more = true;
                for (int k = 0; k <= MEMBERS_MOST && more; k++) {
                    long name = nameHere();
                    int j = kind.memberOf(name);
                    if (j < 0) {
                        fail(5, here());
                    }
                    if (marks.pairOf(m, name) >= 0) {
                        fail(3, here());
                    }
                    at++;
                    pass('=');
                    marks.addPair(m, name, kind.sort[j], readValue(kind.sort[j]));
                    more = passIf(',');
                }
                pass(')');
            }
            for (int j = 0; j < kind.count; j++) {
                if (marks.memberSort(m, kind, j) == MISSING) {
                    fail(7, nameAt);
                }
            }
        }

        private long readValue(int sort) {
            int first = next();
            if (first != TEXT && first != NUMBER && first != '-') {
                fail(2, here());
            }
            if (first == TEXT != (sort == TEXT_VALUE)) {
                fail(7, here());
            }
            boolean minus = passIf('-');
            if (minus && next() != NUMBER) {
                fail(2, here());
            }
            long value = cutter.value[at];
            at++;
            return minus ? -value : value;
        }

        private void readAct() {
            int place = here();
            boolean labelled = next() == NAME;
            if (!labelled && !isActWord(next())) {
                fail(2, place);
            }
            long label = labelled ? cutter.value[at] : 0;
            if (labelled && code.labelled(methodNow, label) >= 0) {
                fail(3, place);
            }
            if (code.acts[methodNow] >= ACTS_MOST || code.total >= ACT_ROOM) {
                fail(6, place);
            }
            if (labelled) {
                at++;
                pass(':');
            }
            if (!isActWord(next())) {
                fail(2, here());
            }
            int a = code.addAct(methodNow, label, place);
            code.op[a] = next();
            at++;
            readOperands(a);
            pass(';');
        }

        private static boolean isActWord(int sort) {
            return sort >= PUSH && sort <= AS;
        }

        private void readOperands(int a) {
            switch (code.op[a]) {
                case PUSH:
                    code.number[a] = (int) readValue(INT_VALUE);
                    readMarks(ACT_ROWS + a, BEHIND_PUSH);
                    code.target[a] = elementsTold(ACT_ROWS + a);
                    break;
                case READ:
                    readMarks(ACT_ROWS + a, BEHIND_PUSH);
                    code.target[a] = elementsTold(ACT_ROWS + a);
                    break;
                case LOAD:
                case STORE:
                    readLocal(a);
                    break;
                case GET:
                case SET:
                case CALL:
                    readFirstName(a);
                    pass('.');
                    code.secondPlace[a] = here();
                    code.secondName[a] = nameHere();
                    at++;
                    break;
                case JUMP:
                case ZERO:
                    readFirstName(a);
                    break;
                case IS:
                    readOrderElement(a);
                    readFirstName(a);
                    break;
                case AS:
                    readOrderElement(a);
                    break;
                default:
                    break;
            }
        }

        /** Four bits for each ORDER: the ELEMENT told, else BOTTOM. */
        private int elementsTold(int row) {
            long elements = 0;
            for (int o = 0; o < program.orderCount; o++) {
                elements = withNibble(elements, o, program.orders[o].bottom);
            }
            int m = marks.first[row];
            for (int k = 0; k < marks.size[row]; k++) {
                int o = marks.target[m] - ORDER_BASE;
                elements = withNibble(elements, o, marks.elementOf(m, program.orders[o]));
                m = marks.next[m];
            }
            return (int) elements;
        }

        private void readLocal(int a) {
            long name = nameHere();
            int local = code.localOf(methodNow, name);
            if (local < 0 && code.op[a] == LOAD) {
                fail(5, here());
            }
            if (local < 0 && code.locals[methodNow] >= LOCALS_MOST) {
                fail(6, here());
            }
            code.number[a] = local < 0 ? code.addLocal(methodNow, name) : local;
            at++;
        }

        private void readFirstName(int a) {
            code.firstPlace[a] = here();
            code.firstName[a] = nameHere();
            at++;
        }

        private void readOrderElement(int a) {
            int order = program.orderOf(nameHere());
            if (order < 0) {
                fail(5, here());
            }
            at++;
            pass('.');
            code.target[a] = order;
            code.number[a] = readElement(program.orders[order]);
        }

        /** Finds what NAMES in ACTS mean, which need not stand ahead. */
        void settleNames() {
            for (int method = 0; method < code.methodCountAll(); method++) {
                for (int i = 0; code.isMethod(method) && i < code.acts[method]; i++) {
                    settleNamesOf(method, code.firstAct[method] + i);
                }
            }
        }

        private void settleNamesOf(int method, int a) {
            int op = code.op[a];
            if (op == JUMP || op == ZERO || op == IS) {
                code.goal[a] = code.labelled(method, code.firstName[a]);
                if (code.goal[a] < 0) {
                    fail(5, code.firstPlace[a]);
                }
            }
            if (op == GET || op == SET || op == CALL) {
                int c = program.classOf(code.firstName[a]);
                if (c < 0) {
                    fail(5, code.firstPlace[a]);
                }
                long name = code.secondName[a];
                code.target[a] = op == CALL ? code.nearestMethod(c, name) : program.nearestField(c, name);
                if (code.target[a] < 0) {
                    fail(5, code.secondPlace[a]);
                }
                code.number[a] = op == CALL ? code.params[code.methodAt(code.target[a])] : 0;
            }
        }

        void settleDepths() {
            for (int method = 0; method < code.methodCountAll(); method++) {
                if (code.isMethod(method)) {
                    settleDepthsOf(code.firstAct[method], code.acts[method]);
                }
            }
        }

        private void settleDepthsOf(int from, int acts) {
            code.depth[from] = 0;
            long open = 1;
            for (int k = 0; k < ACTS_MOST && open != 0; k++) {
                int i = Long.numberOfTrailingZeros(open);
                open &= open - 1;
                open |= goOver(from, acts, i);
            }
        }

        /** Goes over an ACT; a bit for each ACT that is come to for the first time. */
        private long goOver(int from, int acts, int i) {
            int a = from + i;
            int behind = code.depth[a] - code.takes(a) + code.gives(a);
            boolean last = code.goesOn(a) && i + 1 >= acts;
            if (code.takes(a) > code.depth[a] || behind > STACK_MOST || last) {
                fail(8, code.textPlace[a]);
            }
            long open = code.goesOn(a) ? comeTo(from, i + 1, behind) : 0;
            return code.goal[a] < 0 ? open : open | comeTo(from, code.goal[a], behind);
        }

        private long comeTo(int from, int i, int depth) {
            int a = from + i;
            if (code.depth[a] >= 0 && code.depth[a] != depth) {
                fail(8, code.textPlace[a]);
            }
            boolean isNew = code.depth[a] < 0;
            code.depth[a] = depth;
            return isNew ? 1L << i : 0;
        }

        /** Looks through a FILE on THE TAPE, and puts its MARKS in a row (NONE: in none). */
        void readFile(int length, int row) {
            fileLength = length;
            fileAt = 0;
            fileWrong = NONE;
            int count = fileByte(0, MARKS_MOST);
            for (int k = 0; k < count && fileWrong < 0; k++) {
                readFileMark(row);
            }
            if (fileWrong < 0 && fileAt < fileLength) {
                fileWrong = fileAt;
            }
        }

        /** The next byte, if it is low .. high; else the FILE is wrong there (NONE). */
        private int fileByte(int low, int high) {
            if (fileWrong >= 0) {
                return NONE;
            }
            int b = fileAt < fileLength ? cutter.tape[fileAt] & 255 : NONE;
            if (b < low || b > high) {
                fileWrong = fileAt;
                return NONE;
            }
            fileAt++;
            return b;
        }

        private void readFileMark(int row) {
            long name = fileName();
            boolean no = fileAt < fileLength && (cutter.tape[fileAt] & 255) == 255;
            int pairs = no ? fileByte(255, 255) : fileByte(0, PAIRS_MOST);
            int m = row < 0 ? NONE : marks.append(row, name);
            if (m >= 0 && no) {
                marks.pairs[m] = NONE;
            }
            for (int k = 0; k < pairs && !no && fileWrong < 0; k++) {
                long pairName = fileName();
                int sort = fileByte(INT_VALUE, NAME_VALUE);
                long value = fileValue(sort);
                if (m >= 0) {
                    marks.addPair(m, pairName, sort, value);
                }
            }
        }

        private long fileName() {
            int count = fileByte(1, SIGNS_MOST);
            long name = 0;
            for (int k = 0; k < count && fileWrong < 0; k++) {
                int b = fileByte('0', 'z');
                if (b >= 0 && !isLetter(b) && (k == 0 || !isDigit(b))) {
                    fileWrong = fileAt - 1;
                }
                name = name << 8 | b & 255;
            }
            return name;
        }

        private long fileValue(int sort) {
            if (sort == INT_VALUE) {
                int number = 0;
                for (int k = 0; k < 4; k++) {
                    number = number << 8 | fileByte(0, 255) & 255;
                }
                return number;
            }
            return sort == TEXT_VALUE ? fileText() : fileName();
        }

        private long fileText() {
            int count = fileByte(0, SIGNS_MOST);
            long text = 0;
            for (int k = 0; k < count && fileWrong < 0; k++) {
                int b = fileByte(32, 126);
                if (b == '\'') {
                    fileWrong = fileAt - 1;
                }
                text = text << 8 | b & 255;
            }
            return text;
        }
    }

    /** What MARKS do: which are EFFECTIVE, THE MARK of each PLACE, the ROUNDS of MAKERS. */
    private static final class Effects {
        private final Program program;
        private final Code code;
        private final Marks marks;
        // Of the latest seek(): where the MARKS stand, how far above, and the GIVEN one (NONE: OWN ones).
        int seenPlace;
        int seenSteps;
        int seenGiven;
        // By PLACE and ORDER: the ELEMENT of the EFFECTIVE MARK (NONE without one), and the FOUND one.
        private final int[] told = new int[PLACES * ORDERS_MOST];
        private final int[] found = new int[PLACES * ORDERS_MOST];
        // Whether MARKS were changed since told was made.
        private boolean stale;
        // Bits of the CLASSES that had an EFFECTIVE MARK of each MAKER's KIND.
        private final int[] had = new int[MAKERS_MOST];

        Effects(Program itsProgram, Code itsCode, Marks itsMarks) {
            program = itsProgram;
            code = itsCode;
            marks = itsMarks;
        }

        void startAnew() {
            stale = true;
            for (int o = 0; o < program.orderCount; o++) {
                fillFound(o, program.orders[o].top);
            }
        }

        void fillFound(int order, int element) {
            for (int place = 0; place < 100 * program.classCount; place++) {
                found[place * ORDERS_MOST + order] = element;
            }
        }

        /** After a change of a PLACE's row: what its MARKS are of, and which COUNT. */
        void settleRow(int place, int sort) {
            stale = true;
            int m = marks.first[place];
            for (int k = 0; k < marks.size[place]; k++) {
                marks.target[m] = program.targetOf(marks.name[m]);
                m = marks.next[m];
            }
            m = marks.first[place];
            for (int k = 0; k < marks.size[place]; k++) {
                int target = marks.target[m];
                marks.counts[m] = target >= 0 && program.canStand(target, sort)
                        && (program.isMany(target) || howMany(place, target) == 1);
                m = marks.next[m];
            }
        }

        private int howMany(int place, int target) {
            int count = 0;
            int m = marks.first[place];
            for (int k = 0; k < marks.size[place]; k++) {
                count += marks.target[m] == target ? 1 : 0;
                m = marks.next[m];
            }
            return count;
        }

        /** How many EFFECTIVE MARKS there are; seen.. tell the rest. */
        int seek(int place, int target) {
            seenPlace = place;
            seenSteps = 0;
            seenGiven = NONE;
            boolean passesOn = target >= ORDER_BASE || program.kinds[target].heirs;
            for (int k = 0; k <= CLASSES_MOST && seenPlace >= 0; k++) {
                int own = ownCount(seenPlace, target);
                if (own != 0) {
                    return Math.max(own, 0);
                }
                seenGiven = givenAt(seenPlace, target);
                if (seenGiven >= 0) {
                    return 1;
                }
                seenPlace = passesOn ? above(seenPlace) : NONE;
                seenSteps++;
            }
            return 0;
        }

        /** How many OWN MARKS of the TARGET COUNT; NONE if it is only a no. */
        private int ownCount(int place, int target) {
            int count = 0;
            int none = 0;
            int m = marks.first[place];
            for (int k = 0; k < marks.size[place]; k++) {
                if (marks.counts[m] && marks.target[m] == target) {
                    if (marks.isNo(m)) {
                        none = NONE;
                    } else {
                        count++;
                    }
                }
                m = marks.next[m];
            }
            return count > 0 ? count : none;
        }

        private int givenAt(int place, int target) {
            int m = marks.first[place];
            for (int k = 0; k < marks.size[place]; k++) {
                int given = givenBy(m, target);
                if (given >= 0) {
                    return given;
                }
                m = marks.next[m];
            }
            return NONE;
        }

        private int givenBy(int m, int target) {
            if (!marks.counts[m] || marks.isNo(m) || marks.target[m] >= ORDER_BASE) {
                return NONE;
            }
            return program.kinds[marks.target[m]].givenOf(target);
        }

        /** The PLACE ABOVE; NONE without one. */
        private int above(int place) {
            int rest = place % 100;
            int parent = program.parent[place / 100];
            if (parent < 0 || rest != 0 && rest < 20) {
                return NONE;
            }
            if (rest == 0) {
                return 100 * parent;
            }
            int method = code.methodAt(place);
            int one = code.nearestMethod(parent, code.methodName[method]);
            if (one < 0 || code.params[code.methodAt(one)] != code.params[method]) {
                return NONE;
            }
            return one + rest % 10;
        }

        /** EFFECTIVE MARK i of those that the latest seek() saw. */
        int seenMark(int target, int i) {
            if (seenGiven >= 0) {
                return seenGiven;
            }
            int left = i;
            int m = marks.first[seenPlace];
            for (int k = 0; k < marks.size[seenPlace]; k++) {
                if (marks.counts[m] && marks.target[m] == target && !marks.isNo(m)) {
                    if (left == 0) {
                        return m;
                    }
                    left--;
                }
                m = marks.next[m];
            }
            return NONE;
        }

        /** Whether the GIVEN MARK that the latest seek() saw CLASHES. */
        boolean clashes(int target) {
            int m = marks.first[seenPlace];
            for (int k = 0; seenGiven >= 0 && k < marks.size[seenPlace]; k++) {
                int given = givenBy(m, target);
                if (given >= 0 && !isAlike(given, seenGiven, target)) {
                    return true;
                }
                m = marks.next[m];
            }
            return false;
        }

        private boolean isAlike(int one, int other, int target) {
            if (target >= ORDER_BASE) {
                Order order = program.orders[target - ORDER_BASE];
                return marks.elementOf(one, order) == marks.elementOf(other, order);
            }
            Kind kind = program.kinds[target];
            for (int j = 0; j < kind.count; j++) {
                if (marks.memberValue(one, kind, j) != marks.memberValue(other, kind, j)) {
                    return false;
                }
            }
            return true;
        }

        /** Makes told anew, if MARKS were changed; needed ahead of theMark(). */
        void settle() {
            for (int place = 0; stale && place < 100 * program.classCount; place++) {
                if (code.sortOf(place) > AT_CLASS) {
                    for (int o = 0; o < program.orderCount; o++) {
                        told[place * ORDERS_MOST + o] = elementAt(place, o);
                    }
                }
            }
            stale = false;
        }

        private int elementAt(int place, int o) {
            if (seek(place, ORDER_BASE + o) == 0) {
                return NONE;
            }
            Order order = program.orders[o];
            int e = marks.elementOf(seenMark(ORDER_BASE + o, 0), order);
            return e < 0 ? order.top : e;
        }

        int theMark(int place, int order) {
            int e = told[place * ORDERS_MOST + order];
            return e >= 0 ? e : found[place * ORDERS_MOST + order];
        }

        /** FOUND MARKS that FINDING looks for become BOTTOM: how many. */
        int lowerFound(int order) {
            int open = 0;
            for (int place = 0; place < 100 * program.classCount; place++) {
                if (code.sortOf(place) > AT_CLASS && told[place * ORDERS_MOST + order] < 0) {
                    found[place * ORDERS_MOST + order] = program.orders[order].bottom;
                    open++;
                }
            }
            return open;
        }

        /** An ELEMENT comes to a PLACE: whether its FOUND MARK changes by that. */
        boolean raise(int place, int order, int element) {
            int at = place * ORDERS_MOST + order;
            int joined = program.orders[order].joinOf(found[at], element);
            if (told[at] >= 0 || joined == found[at]) {
                return false;
            }
            found[at] = joined;
            return true;
        }

        int makeRounds() {
            int made = 0;
            // Each ROUND but the last brings a MARK to a row of 20 at most.
            for (int k = 0; k < CLASSES_MOST * MARKS_MOST && makeRound(); k++) {
                made++;
            }
            return made;
        }

        private boolean makeRound() {
            for (int k = 0; k < program.makerCount; k++) {
                had[k] = 0;
                for (int c = 0; c < program.classCount; c++) {
                    had[k] |= seek(100 * c, program.makerKind[k]) > 0 ? 1 << c : 0;
                }
            }
            boolean comes = false;
            for (int k = 0; k < program.makerCount; k++) {
                for (int c = 0; c < program.classCount; c++) {
                    if ((had[k] >> c & 1) != 0) {
                        comes |= addMarks(100 * c, MAKER_ROWS + k);
                    }
                }
            }
            return comes;
        }

        private boolean addMarks(int place, int row) {
            int before = marks.size[place];
            int m = marks.first[row];
            for (int k = 0; k < marks.size[row]; k++) {
                if (marks.size[place] < MARKS_MOST && !marks.hasName(place, marks.name[m])) {
                    marks.appendCopy(place, m);
                }
                m = marks.next[m];
            }
            settleRow(place, AT_CLASS);
            return marks.size[place] > before;
        }
    }

    /** FLOW, FINDING, THE WAY and WEAVING; a STATE is a long, four bits for each LOCAL and then each value. */
    private static final class Flow {
        private static final long NOT_COME_TO = -1;
        private static final int MET_MOST = 400;
        private static final int OPEN = -2;
        private static final int ERRORS_OF_METHOD = ACTS_MOST * PARAMS_MOST;

        private final Program program;
        private final Code code;
        private final Effects effects;
        // The ORDER of what stands; NONE if nothing stands.
        int order = NONE;
        private final long[] states = new long[ACT_ROOM];
        // Each ERROR as METHOD, ACT and PARAMETER in one number.
        private final int[] errors = new int[ERROR_ROOM];
        int errorCount;
        // SITUATIONS: their ACT, STATE, the one ahead on the way, the one met before at the same ACT.
        private final int[] metAct = new int[MET_MOST];
        private final long[] metState = new long[MET_MOST];
        private final int[] metFrom = new int[MET_MOST];
        private final int[] metBefore = new int[MET_MOST];
        private final int[] latestMet = new int[ACTS_MOST];
        private int metCount;
        // The ERROR sought; the SITUATION that shows it, NONE before, OPEN.
        private int sought;
        private int shown;
        final int[] steps = new int[MET_MOST];
        int stepCount;

        Flow(Program itsProgram, Code itsCode, Effects itsEffects) {
            program = itsProgram;
            code = itsCode;
            effects = itsEffects;
        }

        void forget() {
            order = NONE;
            errorCount = 0;
            stepCount = 0;
        }

        /** FLOW for an ORDER: makes its STATES and ERRORS. */
        void follow(int itsOrder) {
            order = itsOrder;
            errorCount = 0;
            for (int method = 0; method < code.methodCountAll(); method++) {
                if (code.isMethod(method)) {
                    followMethod(method);
                    addErrors(method);
                }
            }
        }

        private void followMethod(int method) {
            int from = code.firstAct[method];
            Arrays.fill(states, from, from + code.acts[method], NOT_COME_TO);
            states[from] = entry(method);
            long open = 1;
            for (int k = 0; k < MANY_TIMES && open != 0; k++) {
                int i = Long.numberOfTrailingZeros(open);
                open &= open - 1;
                open |= lead(from, i);
            }
        }

        /** The STATE ahead of ACT 0. */
        private long entry(int method) {
            long s = 0;
            for (int k = 0; k < code.locals[method]; k++) {
                int e = program.orders[order].bottom;
                if (k < code.params[method]) {
                    e = effects.theMark(code.placeOf(method) + 1 + k, order);
                }
                s = withNibble(s, k, e);
            }
            return s;
        }

        /** Brings the STATE behind an ACT to those to which it leads: a bit for each that changes. */
        private long lead(int from, int i) {
            int a = from + i;
            long s = behind(a, states[a]);
            long changed = code.goesOn(a) ? bring(from, i + 1, s) : 0;
            return code.goal[a] < 0 ? changed : changed | bring(from, code.goal[a], atLabel(a, s));
        }

        private long bring(int from, int i, long s) {
            long before = states[from + i];
            long joined = before == NOT_COME_TO ? s : joinStates(before, s);
            states[from + i] = joined;
            return joined == before ? 0 : 1L << i;
        }

        private long joinStates(long one, long other) {
            long joined = one;
            for (int slot = 0; slot < SLOTS && one != other; slot++) {
                int e = program.orders[order].joinOf(nibble(one, slot), nibble(other, slot));
                joined = withNibble(joined, slot, e);
            }
            return joined;
        }

        /** The STATE behind an ACT; what is no LOCAL and not on the stack is 0, so that STATES compare. */
        private long behind(int a, long s) {
            int top = LOCALS_MOST + code.depth[a] - 1;
            switch (code.op[a]) {
                case PUSH:
                case READ:
                    return withNibble(s, top + 1, nibble(code.target[a], order));
                case LOAD:
                    return withNibble(s, top + 1, nibble(s, code.number[a]));
                case STORE:
                    return withNibble(withNibble(s, code.number[a], nibble(s, top)), top, 0);
                case GET:
                    return withNibble(s, top + 1, effects.theMark(code.target[a], order));
                case SET:
                case POP:
                case ZERO:
                    return withNibble(s, top, 0);
                case CALL:
                    return behindCall(a, s, top);
                case ADD:
                case SUB:
                case MUL:
                    int e = program.orders[order].joinOf(nibble(s, top - 1), nibble(s, top));
                    return withNibble(withNibble(s, top - 1, e), top, 0);
                case DUP:
                    return withNibble(s, top + 1, nibble(s, top));
                case AS:
                    return code.target[a] == order ? withNibble(s, top, code.number[a]) : s;
                default:
                    return s;
            }
        }

        private long behindCall(int a, long s, int top) {
            int first = top + 1 - code.number[a];
            long rest = s;
            for (int slot = first; slot <= top; slot++) {
                rest = withNibble(rest, slot, 0);
            }
            return withNibble(rest, first, effects.theMark(code.target[a], order));
        }

        /** The STATE s behind an ACT, as it is on the way to its LABEL. */
        private long atLabel(int a, long s) {
            if (code.op[a] != IS || code.target[a] != order) {
                return s;
            }
            int top = LOCALS_MOST + code.depth[a] - 1;
            return withNibble(s, top, program.orders[order].meetOf(nibble(s, top), code.number[a]));
        }

        private void addErrors(int method) {
            for (int i = 0; i < code.acts[method]; i++) {
                int a = code.firstAct[method] + i;
                for (int k = 0; k < code.wants(a) && states[a] != NOT_COME_TO; k++) {
                    if (isWrong(method, a, k, states[a]) && errorCount < ERROR_ROOM) {
                        errors[errorCount++] = method * ERRORS_OF_METHOD + i * PARAMS_MOST + k;
                    }
                }
            }
        }

        /** Whether value k of the ACT is not BELOW what is WANTED, in this STATE. */
        private boolean isWrong(int method, int a, int k, long s) {
            int wanted = effects.theMark(code.wantedPlace(method, a, k), order);
            return !program.orders[order].isBelow(nibble(s, code.wantedSlot(a, k)), wanted);
        }

        boolean isError(int i) {
            return order >= 0 && i >= 0 && i < errorCount;
        }

        int tellError(int i, int what) {
            int method = errors[i] / ERRORS_OF_METHOD;
            int act = errors[i] % ERRORS_OF_METHOD / PARAMS_MOST;
            int k = errors[i] % PARAMS_MOST;
            int a = code.firstAct[method] + act;
            switch (what) {
                case 0:
                    return code.placeOf(method);
                case 1:
                    return act;
                case 2:
                    return k;
                case 3:
                    return nibble(states[a], code.wantedSlot(a, k));
                case 4:
                    return effects.theMark(code.wantedPlace(method, a, k), order);
                default:
                    return NONE;
            }
        }

        int tellState(int method, int act, int slot) {
            if (act < 0 || act >= code.acts[method] || slot < 0 || slot >= SLOTS) {
                return NONE;
            }
            int a = code.firstAct[method] + act;
            boolean stands = slot < LOCALS_MOST ? slot < code.locals[method] : slot - LOCALS_MOST < code.depth[a];
            return stands && states[a] != NOT_COME_TO ? nibble(states[a], slot) : NONE;
        }

        /** FINDING: FOUND MARKS, which are BOTTOM now, are raised till nothing changes. */
        void raiseFound(int itsOrder) {
            order = itsOrder;
            boolean changes = true;
            for (int n = 0; n < MANY_TIMES && changes; n++) {
                changes = false;
                for (int method = 0; method < code.methodCountAll(); method++) {
                    changes |= code.isMethod(method) && raiseBy(method);
                }
            }
        }

        /** Raises FOUND MARKS by what comes to them from a METHOD: whether one changes. */
        private boolean raiseBy(int method) {
            followMethod(method);
            boolean changes = false;
            for (int a = code.firstAct[method]; a < code.firstAct[method] + code.acts[method]; a++) {
                for (int k = 0; k < code.wants(a) && states[a] != NOT_COME_TO; k++) {
                    int e = nibble(states[a], code.wantedSlot(a, k));
                    changes |= effects.raise(code.wantedPlace(method, a, k), order, e);
                }
            }
            return changes;
        }

        /** A CHECK for each ERROR of what stands: how many. */
        int putChecks() {
            for (int i = 0; i < errorCount; i++) {
                int method = errors[i] / ERRORS_OF_METHOD;
                int act = errors[i] % ERRORS_OF_METHOD / PARAMS_MOST;
                code.checks[code.firstAct[method] + act] |= 1 << PARAMS_MOST * order + errors[i] % PARAMS_MOST;
            }
            return errorCount;
        }

        int seekWay(int i) {
            sought = errors[i];
            shown = NONE;
            metCount = 0;
            Arrays.fill(latestMet, NONE);
            int method = sought / ERRORS_OF_METHOD;
            meetSituation(0, entry(method), NONE);
            for (int k = 0; k < MET_MOST && k < metCount && shown == NONE; k++) {
                goOnFrom(k, code.firstAct[method]);
            }
            if (shown == OPEN) {
                return OPEN;
            }
            return shown == NONE ? 0 : keepSteps();
        }

        /** Meets what a SITUATION leads to, the lower ACT first. */
        private void goOnFrom(int k, int from) {
            int i = metAct[k];
            int a = from + i;
            int goal = code.goal[a];
            long s = behind(a, metState[k]);
            if (goal >= 0 && goal <= i) {
                meetSituation(goal, atLabel(a, s), k);
            }
            if (code.goesOn(a)) {
                meetSituation(i + 1, s, k);
            }
            if (goal > i) {
                meetSituation(goal, atLabel(a, s), k);
            }
        }

        private void meetSituation(int i, long s, int from) {
            if (shown != NONE) {
                return;
            }
            int other = latestMet[i];
            for (int n = 0; n < MET_MOST && other >= 0; n++) {
                if (metState[other] == s) {
                    return;
                }
                other = metBefore[other];
            }
            if (metCount >= MET_MOST) {
                shown = OPEN;
                return;
            }
            metAct[metCount] = i;
            metState[metCount] = s;
            metFrom[metCount] = from;
            metBefore[metCount] = latestMet[i];
            latestMet[i] = metCount;
            if (showsError(i, s)) {
                shown = metCount;
            }
            metCount++;
        }

        private boolean showsError(int i, long s) {
            int method = sought / ERRORS_OF_METHOD;
            boolean isThere = i == sought % ERRORS_OF_METHOD / PARAMS_MOST;
            return isThere && isWrong(method, code.firstAct[method] + i, sought % PARAMS_MOST, s);
        }

        private int keepSteps() {
            stepCount = 0;
            int one = shown;
            for (int n = 0; n < MET_MOST && one >= 0; n++) {
                stepCount++;
                one = metFrom[one];
            }
            one = shown;
            for (int k = stepCount - 1; k >= 0; k--) {
                steps[k] = metAct[one];
                one = metFrom[one];
            }
            return stepCount;
        }
    }

    /** A RUN; a value is a long: the int, and above it four bits for each ORDER. */
    private static final class Run {
        private static final int UNDER_WAY = 1;
        private static final int VALUE = 2;
        private static final int DEEP = 3;
        private static final int FAILED = 4;
        private static final int FRAMES_MOST = 12;
        private static final int INPUTS_MOST = 64;
        private static final int TALLIES = 12;
        // Where run(what) has its answers that are counted.
        private static final int STATUS = 0;
        private static final int RESULT = 1;
        private static final int ACTS_DONE = 2;
        private static final int LEFT = 6;
        private static final int LEFT_METHOD = 7;
        private static final int LEFT_ACT = 8;
        private static final int LEFT_ORDER = 9;
        private static final int BROKEN = 10;
        private static final int CHECKS_DONE = 11;
        private static final int ELEMENTS_AT = 8;

        private final Program program;
        private final Code code;
        private final Effects effects;
        final int[] arguments = new int[PARAMS_MOST];
        private final int[] inputs = new int[INPUTS_MOST];
        private int inputCount;
        private final int[] tally = new int[TALLIES];
        private final int[] method = new int[FRAMES_MOST];
        private final int[] act = new int[FRAMES_MOST];
        private final long[] slots = new long[FRAMES_MOST * SLOTS];
        private int frames;
        private final long[] fields = new long[CLASSES_MOST * FIELDS_MOST];
        private boolean woven;
        private long result;
        // The ELEMENTS of a value that is BOTTOM in all ORDERS, where they stand in a value.
        private long bottoms;

        Run(Program itsProgram, Code itsCode, Effects itsEffects) {
            program = itsProgram;
            code = itsCode;
            effects = itsEffects;
            for (int what = LEFT_METHOD; what <= LEFT_ORDER; what++) {
                tally[what] = NONE;
            }
        }

        int addInput(int v) {
            if (inputCount >= INPUTS_MOST) {
                return NONE;
            }
            inputs[inputCount++] = v;
            return inputCount;
        }

        private int takeInput() {
            if (inputCount == 0) {
                return 0;
            }
            int v = inputs[0];
            inputCount--;
            System.arraycopy(inputs, 1, inputs, 0, inputCount);
            return v;
        }

        void stop() {
            Arrays.fill(tally, 0);
            Arrays.fill(tally, LEFT_METHOD, LEFT_ORDER + 1, NONE);
        }

        boolean isUnderWay() {
            return tally[STATUS] == UNDER_WAY;
        }

        private static long value(int v, int elements) {
            return v & 0xffffffffL | (long) elements << 32;
        }

        void start(int itsMethod, boolean withChecks) {
            stop();
            tally[STATUS] = UNDER_WAY;
            woven = withChecks;
            bottoms = 0;
            for (int o = 0; o < program.orderCount; o++) {
                bottoms = withNibble(bottoms, ELEMENTS_AT + o, program.orders[o].bottom);
            }
            for (int f = 0; f < fields.length; f++) {
                fields[f] = program.fieldNumber[f] & 0xffffffffL | bottoms;
            }
            frames = 0;
            openFrame(itsMethod);
            for (int k = 0; k < code.params[itsMethod]; k++) {
                slots[k] = arguments[k] & 0xffffffffL | bottoms;
            }
        }

        private void openFrame(int itsMethod) {
            method[frames] = itsMethod;
            act[frames] = 0;
            Arrays.fill(slots, frames * SLOTS, frames * SLOTS + SLOTS, bottoms);
            frames++;
        }

        int goOn(int n) {
            int before = tally[ACTS_DONE];
            for (int k = 0; k < n && isUnderWay(); k++) {
                goOneAct();
            }
            return tally[ACTS_DONE] - before;
        }

        private void goOneAct() {
            int frame = frames - 1;
            int a = code.firstAct[method[frame]] + act[frame];
            if (woven && !passesChecks(frame, a)) {
                tally[STATUS] = FAILED;
                return;
            }
            if (code.op[a] == CALL && frames >= FRAMES_MOST) {
                tally[STATUS] = DEEP;
                return;
            }
            countLeft(frame, a);
            tally[ACTS_DONE]++;
            if (code.op[a] == CALL) {
                enter(frame, a);
            } else if (code.op[a] == RET) {
                leave(frame, a);
            } else if (isBranch(code.op[a])) {
                act[frame] = doBranch(frame, a) ? code.goal[a] : act[frame] + 1;
            } else {
                doPlain(frame * SLOTS, a);
                act[frame]++;
            }
        }

        private static boolean isBranch(int op) {
            return op == JUMP || op == ZERO || op == IS;
        }

        private boolean isLow(long value, int order, int element) {
            return program.orders[order].isBelow(nibble(value, ELEMENTS_AT + order), element);
        }

        /** Whether value k that the ACT gives away is BELOW what is WANTED. */
        private boolean keepsMark(int frame, int a, int k, int order) {
            int wanted = effects.theMark(code.wantedPlace(method[frame], a, k), order);
            return isLow(slots[frame * SLOTS + code.wantedSlot(a, k)], order, wanted);
        }

        private boolean passesChecks(int frame, int a) {
            for (int bit = 0; bit < ORDERS_MOST * PARAMS_MOST; bit++) {
                if ((code.checks[a] >> bit & 1) != 0) {
                    tally[CHECKS_DONE]++;
                    if (!keepsMark(frame, a, bit % PARAMS_MOST, bit / PARAMS_MOST)) {
                        return false;
                    }
                }
            }
            return true;
        }

        private void countLeft(int frame, int a) {
            int wants = code.wants(a);
            for (int o = 0; o < program.orderCount && wants > 0; o++) {
                for (int k = 0; k < wants; k++) {
                    if (!keepsMark(frame, a, k, o)) {
                        noteLeft(frame, o);
                    }
                }
            }
        }

        private void noteLeft(int frame, int order) {
            if (tally[LEFT] == 0) {
                tally[LEFT_METHOD] = code.placeOf(method[frame]);
                tally[LEFT_ACT] = act[frame];
                tally[LEFT_ORDER] = order;
            }
            tally[LEFT]++;
        }

        private void enter(int frame, int a) {
            int takes = code.takes(a);
            int from = frame * SLOTS + LOCALS_MOST + code.depth[a] - takes;
            openFrame(code.methodAt(code.target[a]));
            System.arraycopy(slots, from, slots, frame * SLOTS + SLOTS, takes);
        }

        private void leave(int frame, int a) {
            long given = slots[frame * SLOTS + LOCALS_MOST + code.depth[a] - 1];
            if (frame == 0) {
                tally[STATUS] = VALUE;
                tally[RESULT] = (int) given;
                result = given;
                return;
            }
            frames--;
            int caller = frame - 1;
            int call = code.firstAct[method[caller]] + act[caller];
            slots[caller * SLOTS + LOCALS_MOST + code.depth[call] - code.takes(call)] = given;
            act[caller]++;
        }

        /** Whether jump, zero or is goes to its LABEL. */
        private boolean doBranch(int frame, int a) {
            if (code.op[a] == JUMP) {
                return true;
            }
            long top = slots[frame * SLOTS + LOCALS_MOST + code.depth[a] - 1];
            return code.op[a] == ZERO ? (int) top == 0 : isLow(top, code.target[a], code.number[a]);
        }

        private void doPlain(int base, int a) {
            int above = base + LOCALS_MOST + code.depth[a];
            int number = code.number[a];
            switch (code.op[a]) {
                case PUSH:
                    slots[above] = value(number, code.target[a]);
                    break;
                case READ:
                    slots[above] = value(takeInput(), code.target[a]);
                    break;
                case LOAD:
                    slots[above] = slots[base + number];
                    break;
                case STORE:
                    slots[base + number] = slots[above - 1];
                    break;
                case GET:
                    slots[above] = fields[fieldAt(code.target[a])];
                    break;
                case SET:
                    fields[fieldAt(code.target[a])] = slots[above - 1];
                    break;
                case ADD:
                case SUB:
                case MUL:
                    slots[above - 2] = reckon(code.op[a], slots[above - 2], slots[above - 1]);
                    break;
                case DUP:
                    slots[above] = slots[above - 1];
                    break;
                case AS:
                    tally[BROKEN] += isLow(slots[above - 1], code.target[a], number) ? 0 : 1;
                    slots[above - 1] = withNibble(slots[above - 1], ELEMENTS_AT + code.target[a], number);
                    break;
                default:
                    break;
            }
        }

        private static int fieldAt(int place) {
            return place / 100 * FIELDS_MOST + place % 100 - 1;
        }

        private long reckon(int op, long one, long other) {
            int x = (int) one;
            int y = (int) other;
            int number = op == ADD ? x + y : op == SUB ? x - y : x * y;
            long joined = number & 0xffffffffL;
            for (int o = 0; o < program.orderCount; o++) {
                int slot = ELEMENTS_AT + o;
                joined = withNibble(joined, slot, program.orders[o].joinOf(nibble(one, slot), nibble(other, slot)));
            }
            return joined;
        }

        int tellTally(int what) {
            if (what < 0 || what >= TALLIES) {
                return NONE;
            }
            boolean none = tally[STATUS] == 0;
            switch (what) {
                case 3:
                    return none ? 0 : code.placeOf(method[frames - 1]);
                case 4:
                    return none ? 0 : act[frames - 1];
                case 5:
                    return isUnderWay() ? frames : 0;
                default:
                    return tally[what];
            }
        }

        int truthOf(int order) {
            return tally[STATUS] == VALUE ? nibble(result, ELEMENTS_AT + order) : NONE;
        }
    }

    /** WIRING. */
    private static final class Wiring {
        private static final int LACK = 1;
        private static final int TIE = 2;
        private static final int RING = 3;
        private static final int BEING_MADE = 1;
        private static final int DONE = 2;

        private final Program program;
        private final Marks marks;
        private final Effects effects;
        private final boolean[] isPart = new boolean[CLASSES_MOST];
        private final long[] label = new long[CLASSES_MOST];
        private final int[] stage = new int[CLASSES_MOST];
        private final int[] made = new int[CLASSES_MOST];
        private int madeCount;
        private int wrongField = NONE;
        private int wrongClass = NONE;

        Wiring(Program itsProgram, Marks itsMarks, Effects itsEffects) {
            program = itsProgram;
            marks = itsMarks;
            effects = itsEffects;
        }

        void forget() {
            madeCount = 0;
            wrongField = NONE;
            wrongClass = NONE;
        }

        int tellWired(int what) {
            if (what == 0) {
                return wrongField;
            }
            if (what == 1) {
                return wrongClass;
            }
            return what >= 2 && what - 2 < madeCount ? made[what - 2] : NONE;
        }

        int makeAll() {
            forget();
            seekParts();
            int want = program.kindOf(pack("want"));
            int verdict = 0;
            for (int c = 0; c < program.classCount && verdict == 0; c++) {
                if (isPart[c] && stage[c] == 0) {
                    verdict = make(c, want, 0);
                }
            }
            return verdict;
        }

        private void seekParts() {
            int part = program.kindOf(pack("part"));
            for (int c = 0; c < program.classCount; c++) {
                isPart[c] = part >= 0 && effects.seek(100 * c, part) > 0;
                label[c] = isPart[c] ? textOf(part, pack("label")) : 0;
                stage[c] = 0;
            }
        }

        /** The text of a MEMBER of the first MARK that was seen; 0, as of '', if there is none. */
        private long textOf(int kind, long member) {
            return valueOf(kind, member, TEXT_VALUE);
        }

        private long valueOf(int kind, long member, int sort) {
            Kind it = program.kinds[kind];
            int j = it.memberOf(member);
            int m = effects.seenMark(kind, 0);
            if (j < 0 || m < 0 || marks.memberSort(m, it, j) != sort) {
                return 0;
            }
            return marks.memberValue(m, it, j);
        }

        private int make(int c, int want, int depth) {
            stage[c] = BEING_MADE;
            for (int steps = CLASSES_MOST; steps >= 0 && want >= 0; steps--) {
                int owner = program.ancestor(c, steps);
                for (int f = 0; owner >= 0 && f < program.fieldCount[owner]; f++) {
                    int verdict = meetWant(c, 100 * owner + 1 + f, want, depth);
                    if (verdict != 0) {
                        return verdict;
                    }
                }
            }
            stage[c] = DONE;
            made[madeCount++] = c;
            return 0;
        }

        /** What a FIELD WANTS is sought, and made if that must be. */
        private int meetWant(int c, int field, int want, int depth) {
            if (effects.seek(field, want) == 0) {
                return 0;
            }
            int of = program.classOf(textOf(want, pack("of")));
            long wantedLabel = textOf(want, pack("label"));
            boolean late = valueOf(want, pack("late"), INT_VALUE) != 0;
            int one = NONE;
            int fitting = 0;
            for (int p = 0; p < program.classCount; p++) {
                boolean labelFits = wantedLabel == 0 || label[p] == wantedLabel;
                if (isPart[p] && of >= 0 && labelFits && program.isHeir(p, of)) {
                    one = p;
                    fitting++;
                }
            }
            if (fitting != 1) {
                return note(fitting == 0 ? LACK : TIE, field, c);
            }
            if (late || stage[one] == DONE) {
                return 0;
            }
            // What is being made already is a ring, so no more than the CLASSES can stand open.
            if (stage[one] == BEING_MADE || depth >= CLASSES_MOST) {
                return note(RING, field, c);
            }
            return make(one, want, depth + 1);
        }

        private int note(int verdict, int field, int c) {
            wrongField = field;
            wrongClass = c;
            return verdict;
        }
    }

    /** THE OUT, and all that is written to it. */
    private static final class Teller {
        final byte[] bytes = new byte[OUT_MOST];
        int length;
        private final long[] words;
        private final Program program;
        private final Code code;
        private final Marks marks;
        private final Effects effects;

        Teller(long[] itsWords, Program itsProgram, Code itsCode, Marks itsMarks, Effects itsEffects) {
            words = itsWords;
            program = itsProgram;
            code = itsCode;
            marks = itsMarks;
            effects = itsEffects;
        }

        private void put(int b) {
            if (length < OUT_MOST) {
                bytes[length++] = (byte) b;
            }
        }

        private void putSigns(long packed) {
            for (int shift = 56; shift >= 0; shift -= 8) {
                int b = (int) (packed >>> shift) & 255;
                if (b != 0) {
                    put(b);
                }
            }
        }

        private void putDigits(long number) {
            boolean begun = false;
            for (long unit = 1000000000; unit >= 1; unit /= 10) {
                int digit = (int) (number / unit % 10);
                begun |= digit != 0 || unit == 1;
                if (begun) {
                    put('0' + digit);
                }
            }
        }

        // putName, putSign and putValue put a byte 32 ahead of their LEXEME, unless it is the first one.

        private void putName(long name) {
            if (length > 0) {
                put(32);
            }
            putSigns(name);
        }

        private void putWord(int word) {
            putName(words[word - ORDER]);
        }

        private void putSign(char sign) {
            if (length > 0) {
                put(32);
            }
            put(sign);
        }

        private void putValue(int sort, long value) {
            if (sort == TEXT_VALUE) {
                putSign('\'');
                putSigns(value);
                put('\'');
                return;
            }
            if (value < 0) {
                putSign('-');
            }
            put(32);
            putDigits(value < 0 ? -value : value);
        }

        int writeProgram() {
            length = 0;
            for (int o = 0; o < program.orderCount; o++) {
                writeOrder(program.orders[o]);
            }
            for (int k = 0; k < program.kindCount; k++) {
                writeKind(k, program.kinds[k]);
            }
            for (int k = 0; k < program.makerCount; k++) {
                putWord(MAKER);
                putName(program.makerName[k]);
                putSign(':');
                putName(program.kinds[program.makerKind[k]].name);
                putWord(ADDS);
                writeMarks(MAKER_ROWS + k);
                putSign(';');
            }
            for (int c = 0; c < program.classCount; c++) {
                writeClassHead(c);
                for (int m = 0; m < program.methodCount[c]; m++) {
                    int method = c * METHODS_MOST + m;
                    writeMethodHead(method);
                    for (int i = 0; i < code.acts[method]; i++) {
                        writeAct(method, code.firstAct[method] + i, NONE);
                    }
                    putSign('}');
                }
                putSign('}');
            }
            return length;
        }

        private void writeOrder(Order order) {
            putWord(ORDER);
            putName(order.name);
            for (int e = 0; e < order.count; e++) {
                putSign(e == 0 ? ':' : ',');
                putName(order.element[e]);
            }
            for (int a = 0; a < order.count; a++) {
                for (int b = 0; b < order.count; b++) {
                    if (order.isNextBelow(a, b)) {
                        putSign(',');
                        putName(order.element[a]);
                        putSign('<');
                        putName(order.element[b]);
                    }
                }
            }
            putSign(';');
        }

        private void writeKind(int k, Kind kind) {
            putWord(KIND);
            putName(kind.name);
            for (int j = 0; j < kind.count; j++) {
                putSign(j == 0 ? '(' : ',');
                putName(kind.member[j]);
                putSign(':');
                putWord(kind.sort[j] == INT_VALUE ? INT : TEXT_WORD);
                if (kind.hasDefault[j]) {
                    putSign('=');
                    putValue(kind.sort[j], kind.byDefault[j]);
                }
            }
            if (kind.count > 0) {
                putSign(')');
            }
            writeSorts(kind.on);
            if (kind.heirs) {
                putWord(HEIRS);
            }
            if (kind.many) {
                putWord(MANY);
            }
            if (marks.size[KIND_ROWS + k] > 0) {
                putSign('=');
                writeMarks(KIND_ROWS + k);
            }
            putSign(';');
        }

        private void writeSorts(int on) {
            if (on == ALL_SORTS) {
                return;
            }
            putWord(ON);
            for (int sort = AT_CLASS; sort <= AT_PARAM; sort++) {
                if ((on >> sort & 1) != 0) {
                    putWord(CLASS + sort);
                }
            }
        }

        private void writeClassHead(int c) {
            putWord(CLASS);
            putName(program.className[c]);
            if (program.parent[c] >= 0) {
                putSign(':');
                putName(program.className[program.parent[c]]);
            }
            writeMarks(100 * c);
            putSign('{');
            for (int f = 0; f < program.fieldCount[c]; f++) {
                putWord(FIELD);
                putName(program.fieldName[c * FIELDS_MOST + f]);
                writeMarks(100 * c + 1 + f);
                int number = program.fieldNumber[c * FIELDS_MOST + f];
                if (number != 0) {
                    putSign('=');
                    putValue(INT_VALUE, number);
                }
                putSign(';');
            }
        }

        private void writeMethodHead(int method) {
            putWord(METHOD);
            putName(code.methodName[method]);
            putSign('(');
            for (int k = 0; k < code.params[method]; k++) {
                if (k > 0) {
                    putSign(',');
                }
                putName(code.localName[method * LOCALS_MOST + k]);
                writeMarks(code.placeOf(method) + 1 + k);
            }
            putSign(')');
            writeMarks(code.placeOf(method));
            putSign('{');
        }

        /** MARKS of a row, but for those that do not COUNT or are not whole. */
        private void writeMarks(int row) {
            int m = marks.first[row];
            for (int k = 0; k < marks.size[row]; k++) {
                if (marks.counts[m] && isWhole(m)) {
                    writeMark(m);
                }
                m = marks.next[m];
            }
        }

        private boolean isWhole(int m) {
            if (marks.isNo(m)) {
                return true;
            }
            if (marks.target[m] >= ORDER_BASE) {
                return marks.elementOf(m, program.orders[marks.target[m] - ORDER_BASE]) >= 0;
            }
            Kind kind = program.kinds[marks.target[m]];
            for (int j = 0; j < kind.count; j++) {
                if (marks.memberSort(m, kind, j) < 0) {
                    return false;
                }
            }
            return true;
        }

        private void writeMark(int m) {
            putSign('@');
            if (marks.isNo(m)) {
                putName(words[NO - ORDER]);
            }
            putName(marks.name[m]);
            if (marks.isNo(m)) {
                return;
            }
            if (marks.target[m] >= ORDER_BASE) {
                Order order = program.orders[marks.target[m] - ORDER_BASE];
                putSign('.');
                putName(order.element[marks.elementOf(m, order)]);
                return;
            }
            Kind kind = program.kinds[marks.target[m]];
            boolean some = false;
            for (int j = 0; j < kind.count; j++) {
                if (marks.pairOf(m, kind.member[j]) >= 0) {
                    putSign(some ? ',' : '(');
                    some = true;
                    putName(kind.member[j]);
                    putSign('=');
                    putValue(kind.sort[j], marks.memberValue(m, kind, j));
                }
            }
            if (some) {
                putSign(')');
            }
        }

        /** An ACT with LABELS as they were told (goal NONE), or the number of its LABEL alone. */
        private void writeAct(int method, int a, int goal) {
            if (goal < 0 && code.label[a] != 0) {
                putName(code.label[a]);
                putSign(':');
            }
            putWord(code.op[a]);
            switch (code.op[a]) {
                case PUSH:
                    putValue(INT_VALUE, code.number[a]);
                    writeMarks(ACT_ROWS + a);
                    break;
                case READ:
                    writeMarks(ACT_ROWS + a);
                    break;
                case LOAD:
                case STORE:
                    putName(code.localName[method * LOCALS_MOST + code.number[a]]);
                    break;
                case GET:
                case SET:
                case CALL:
                    putName(code.firstName[a]);
                    putSign('.');
                    putName(code.secondName[a]);
                    break;
                case IS:
                case AS:
                    writeOrderElement(code.target[a], code.number[a]);
                    break;
                default:
                    break;
            }
            if (code.goal[a] >= 0 && goal < 0) {
                putName(code.firstName[a]);
            } else if (code.goal[a] >= 0) {
                putValue(INT_VALUE, goal);
            }
            putSign(';');
        }

        private void writeOrderElement(int order, int element) {
            putName(program.orders[order].name);
            putSign('.');
            putName(program.orders[order].element[element]);
        }

        int writeCode(int method, boolean woven) {
            length = 0;
            for (int i = 0; i < code.acts[method]; i++) {
                int a = code.firstAct[method] + i;
                if (woven) {
                    writeChecks(method, a);
                }
                writeAct(method, a, writtenAhead(method, code.goal[a], woven));
            }
            return length;
        }

        private void writeChecks(int method, int a) {
            for (int bit = 0; bit < ORDERS_MOST * PARAMS_MOST; bit++) {
                if ((code.checks[a] >> bit & 1) != 0) {
                    int order = bit / PARAMS_MOST;
                    int k = bit % PARAMS_MOST;
                    putName(pack("check"));
                    writeOrderElement(order, effects.theMark(code.wantedPlace(method, a, k), order));
                    putValue(INT_VALUE, code.wants(a) - 1 - k);
                    putSign(';');
                }
            }
        }

        /** How many ACTS and CHECKS are written ahead of an ACT and its CHECKS; 0 if it is NONE. */
        private int writtenAhead(int method, int act, boolean woven) {
            int ahead = Math.max(act, 0);
            for (int i = 0; i < act && woven; i++) {
                ahead += Integer.bitCount(code.checks[code.firstAct[method] + i]);
            }
            return ahead;
        }

        int writeFile(int place) {
            length = 0;
            put(marks.size[place]);
            int m = marks.first[place];
            for (int k = 0; k < marks.size[place]; k++) {
                putCounted(marks.name[m]);
                put(marks.isNo(m) ? 255 : marks.pairs[m]);
                for (int p = m * PAIRS_MOST; p < m * PAIRS_MOST + marks.pairs[m]; p++) {
                    putCounted(marks.pairName[p]);
                    put(marks.pairSort[p]);
                    if (marks.pairSort[p] == INT_VALUE) {
                        putFour(marks.pairValue[p]);
                    } else {
                        putCounted(marks.pairValue[p]);
                    }
                }
                m = marks.next[m];
            }
            return length;
        }

        private void putCounted(long packed) {
            int signs = 0;
            for (long rest = packed; rest != 0; rest >>>= 8) {
                signs++;
            }
            put(signs);
            putSigns(packed);
        }

        private void putFour(long number) {
            for (int shift = 24; shift >= 0; shift -= 8) {
                put((int) (number >> shift) & 255);
            }
        }

        /** The ELEMENT of an ORDER's MARK, as ask() has it. */
        int writeElement(int m, Order order) {
            int e = marks.elementOf(m, order);
            if (e < 0) {
                return WARPED;
            }
            length = 0;
            putSigns(order.element[e]);
            return NAME_VALUE;
        }

        /** The VALUE of a MEMBER, as ask() has it. */
        int writeMember(int m, Kind kind, int j) {
            int sort = marks.memberSort(m, kind, j);
            if (sort < 0) {
                return sort;
            }
            long value = marks.memberValue(m, kind, j);
            length = 0;
            if (sort == TEXT_VALUE) {
                putSigns(value);
                return sort;
            }
            if (value < 0) {
                put('-');
            }
            putDigits(value < 0 ? -value : value);
            return sort;
        }
    }
}
