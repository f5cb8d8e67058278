import java.util.Arrays;

/** Files of code rewritten so that they pay for what they do, run as rewritten, and unwritten again. */
public final class StepRewriter {
    public static final int NONE = -1, STATE = -2, BAD = -3, FULL = -4;

    private static final int MOST_BYTES = 6000;
    private static final int MOST_METHODS = 8;
    private static final int MOST_PARAMETERS = 4;
    private static final int MOST_LOCALS = 20;
    private static final int MOST_CODE = 2000;
    private static final int MOST_WRITTEN = 4000;
    private static final int MOST_HANDLERS = 8;
    private static final int MOST_KIND = 4;
    private static final int MOST_DEPTH = 20;
    private static final int MOST_PRICE = 1000;
    private static final int MOST_LIMIT = 100000;
    private static final int ARRAYS = 4;
    /** The numbers of a HANDLER, and the bytes that they have in a FILE. */
    private static final int HANDLER_NUMBERS = 4, HANDLER_BYTES = 7;
    /** An answer that names a place or a METHOD is this less it. */
    private static final int NAMED = -10;
    /** What a check answers where it finds no place that is not right. */
    private static final int RIGHT = -1;

    private CodeSet tape = new CodeSet(MOST_BYTES);
    private CodeSet file = new CodeSet(MOST_BYTES);
    /** Where unwrite() builds the next FILE while it still reads the one there is. */
    private CodeSet spare = new CodeSet(MOST_BYTES);
    private final CodeSet rewritten = new CodeSet(MOST_METHODS * MOST_WRITTEN);
    private final Prices prices = new Prices();
    private final FormCheck check = new FormCheck();
    private final Layout layout = new Layout();
    private final Machine machine = new Machine(rewritten);

    public StepRewriter() {
    }

    public int feed(long w, int n) {
        if (n < 1 || n > 8) {
            return BAD;
        }
        if (tape.used + n > MOST_BYTES) {
            return FULL;
        }
        for (int left = n - 1; left >= 0; left--) {
            tape.append((int) (w >> (8 * left)));
        }
        return tape.used;
    }

    public int load() {
        int wrong = check.firstWrong(tape);
        if (wrong == RIGHT) {
            CodeSet older = file;
            file = tape;
            tape = older;
            rewritten.empty();
        }
        tape.empty();
        return wrong == RIGHT ? file.count : NAMED - wrong;
    }

    public int price(int kind, int v) {
        if (Kind.sizeOf(kind) == 0 || v < 0 || v > MOST_PRICE) {
            return BAD;
        }
        int older = prices.of(kind);
        prices.become(kind, v);
        return older;
    }

    public int rewrite() {
        if (file.count == 0) {
            return STATE;
        }
        rewritten.empty();
        for (int m = 0; m < file.count; m++) {
            int size = layout.plan(file.method(m), prices, true);
            if (size > MOST_WRITTEN) {
                return NAMED - m;
            }
            layout.write(file.method(m), rewritten, rewritten.method(m));
        }
        rewritten.count = file.count;
        return rewritten.codeBytes();
    }

    public int told(int m, boolean written, int what) {
        CodeSet set = written ? rewritten : file;
        if (set.count == 0) {
            return STATE;
        }
        if (!set.has(m)) {
            return BAD;
        }
        Method method = set.method(m);
        switch (what) {
            case 0:
                return method.length;
            case 1:
                return method.blocks;
            case 2:
                return method.handlers;
            case 3:
                return method.longBranches;
            case 4:
                return method.longJumps;
            case 5:
                return written ? NONE : method.deepest;
            default:
                return BAD;
        }
    }

    public int byteAt(int m, boolean written, int i) {
        CodeSet set = written ? rewritten : file;
        if (set.count == 0) {
            return STATE;
        }
        if (!set.has(m) || i < 0 || i >= set.method(m).length) {
            return BAD;
        }
        return set.method(m).valueAt(i);
    }

    public int handler(int m, boolean written, int k, int what) {
        CodeSet set = written ? rewritten : file;
        if (set.count == 0) {
            return STATE;
        }
        if (!set.has(m) || k < 0 || k >= set.method(m).handlers) {
            return BAD;
        }
        if (what < 0 || what >= HANDLER_NUMBERS) {
            return BAD;
        }
        return set.method(m).handlerNumber(k, what);
    }

    public int block(int m, int k, int what) {
        if (file.count == 0) {
            return STATE;
        }
        if (!file.has(m) || k < 0 || k >= file.method(m).blocks || what < 0 || what > 1) {
            return BAD;
        }
        int begin = file.method(m).blockBegin(k);
        return what == 0 ? begin : file.method(m).sumFrom(begin, prices);
    }

    public int run(int m, int x, int y, int limit) {
        if (rewritten.count == 0) {
            return STATE;
        }
        if (!rewritten.has(m) || limit < 0 || limit > MOST_LIMIT) {
            return BAD;
        }
        return machine.perform(m, x, y, limit);
    }

    public int answer() {
        return machine.result;
    }

    public int counted() {
        return machine.paid;
    }

    public int steps() {
        return machine.done;
    }

    public int element(int a, int i) {
        if (a < 0 || a >= ARRAYS) {
            return BAD;
        }
        if (i == -1) {
            return machine.arrays.sizeOf(a);
        }
        return machine.arrays.has(a, i) ? machine.arrays.get(a, i) : NONE;
    }

    public int unwrite() {
        if (rewritten.count == 0) {
            return STATE;
        }
        // The FILE and what is REWRITTEN are the same instructions at all times: load() drops
        // the latter, and unwrite() changes nothing but how long jumps are. So the FILE can be
        // laid out again without payments, which needs no guess at what a 168 once was.
        spare.empty();
        spare.append(file.count);
        for (int m = 0; m < file.count; m++) {
            unwriteMethod(file.method(m), spare.method(m));
        }
        check.firstWrong(spare);
        CodeSet older = file;
        file = spare;
        spare = older;
        return file.codeBytes();
    }

    public void clear() {
        tape.empty();
        file.empty();
        rewritten.empty();
        prices.becomeFirst();
        machine.forget();
    }

    private void unwriteMethod(Method from, Method to) {
        int size = layout.plan(from, prices, false);
        spare.append(from.parameters);
        spare.append(from.locals);
        spare.appendPair(size);
        layout.write(from, spare, to);
        spare.append(to.handlers);
        for (int k = 0; k < to.handlers; k++) {
            for (int what = 0; what < HANDLER_NUMBERS - 1; what++) {
                spare.appendPair(to.handlerNumber(k, what));
            }
            spare.append(to.handlerNumber(k, HANDLER_NUMBERS - 1));
        }
    }

    /** Rows whose every index is looked at first. */
    private static final class Rows {
        static int at(int[] row, int i) {
            return i >= 0 && i < row.length ? row[i] : 0;
        }

        static void put(int[] row, int i, int v) {
            if (i >= 0 && i < row.length) {
                row[i] = v;
            }
        }
    }

    /** What is told of an instruction by its first byte alone. */
    private static final class Kind {
        static final int NOTHING = 0, BYTE = 16, PAIR = 17, LOCAL = 21, FETCH = 46, KEEP = 54;
        static final int STORE = 79, DROP = 87, TWICE = 89, ADD = 96, SUBTRACT = 100;
        static final int MULTIPLY = 104, DIVIDE = 108, REMAIN = 112, NEGATE = 116, AND = 126;
        static final int OR = 128, XOR = 130, IF_ZERO = 153, IF_NOT_ZERO = 154, IF_BELOW = 155;
        static final int IF_NOT_BELOW = 156, IF_ABOVE = 157, IF_NOT_ABOVE = 158, JUMP = 167;
        static final int LONG_JUMP = 168, END = 172, CALL = 184, MAKE = 188, COUNT = 190;
        static final int THROW = 191, PAY = 202, PAY_TOP = 203;
        static final int LONG_BRANCH_BYTES = 5, BRANCH_BYTES = 2, PAY_BYTES = 5, PAY_TOP_BYTES = 1;

        /** Its bytes; 0 if it is none that a FILE may have. */
        static int sizeOf(int kind) {
            switch (kind) {
                case NOTHING:
                case DROP:
                case TWICE:
                case NEGATE:
                case END:
                case THROW:
                    return 1;
                case BYTE:
                case LOCAL:
                case KEEP:
                case JUMP:
                case CALL:
                    return 2;
                case PAIR:
                case LONG_JUMP:
                    return 3;
                default:
                    return isOfTwo(kind) ? 1 : isBranch(kind) || isOfArray(kind) ? 2 : 0;
            }
        }

        static boolean isBranch(int kind) {
            return kind >= IF_ZERO && kind <= IF_NOT_ABOVE;
        }

        static boolean isJump(int kind) {
            return isBranch(kind) || kind == JUMP || kind == LONG_JUMP;
        }

        /** Whether the run never goes on to what stands behind it. */
        static boolean endsWay(int kind) {
            return kind == JUMP || kind == LONG_JUMP || kind == END || kind == THROW;
        }

        static boolean isOfArray(int kind) {
            return kind == MAKE || kind == COUNT || kind == FETCH || kind == STORE;
        }

        /** Whether one value takes the place of the two on top. */
        static boolean isOfTwo(int kind) {
            switch (kind) {
                case ADD:
                case SUBTRACT:
                case MULTIPLY:
                case DIVIDE:
                case REMAIN:
                case AND:
                case OR:
                case XOR:
                    return true;
                default:
                    return false;
            }
        }

        /** How many it takes from the stack (a CALL: beside the PARAMETERS). */
        static int takes(int kind) {
            switch (kind) {
                case KEEP:
                case DROP:
                case TWICE:
                case NEGATE:
                case END:
                case MAKE:
                case FETCH:
                    return 1;
                case STORE:
                    return 2;
                default:
                    return isOfTwo(kind) ? 2 : isBranch(kind) ? 1 : 0;
            }
        }

        static int gives(int kind) {
            switch (kind) {
                case BYTE:
                case PAIR:
                case LOCAL:
                case NEGATE:
                case FETCH:
                case COUNT:
                case CALL:
                    return 1;
                case TWICE:
                    return 2;
                default:
                    return isOfTwo(kind) ? 1 : 0;
            }
        }

        /** The branch that is taken just when this one is not: they stand in pairs. */
        static int opposite(int branch) {
            return IF_ZERO + ((branch - IF_ZERO) ^ 1);
        }

        static boolean isTaken(int branch, int top) {
            switch (branch) {
                case IF_ZERO:
                    return top == 0;
                case IF_NOT_ZERO:
                    return top != 0;
                case IF_BELOW:
                    return top < 0;
                case IF_NOT_BELOW:
                    return top >= 0;
                case IF_ABOVE:
                    return top > 0;
                default:
                    return top <= 0;
            }
        }
    }

    /** What instructions of each kind cost. */
    private static final class Prices {
        private static final int BYTES = 256, FIRST = 1, FIRST_OF_CALL = 5;
        private final int[] row = new int[BYTES];

        Prices() {
            becomeFirst();
        }

        void becomeFirst() {
            Arrays.fill(row, FIRST);
            Rows.put(row, Kind.CALL, FIRST_OF_CALL);
        }

        int of(int kind) {
            return Rows.at(row, kind);
        }

        void become(int kind, int v) {
            Rows.put(row, kind, v);
        }
    }

    /** A METHOD, of the FILE or REWRITTEN; its CODE lies in the row of the set it belongs to. */
    private static final class Method {
        // Marks lie above the byte in the cell, so that they move with the row they are about.
        static final int BEGINS = 256, BEGINS_BLOCK = 512;
        static final int FROM = 0, TO = 1, AT = 2, KIND = 3;

        final int[] row;
        final int[] table = new int[MOST_HANDLERS * HANDLER_NUMBERS];
        int codeAt, length, parameters, locals, handlers;
        int blocks, longBranches, longJumps, deepest;

        Method(int[] row) {
            this.row = row;
        }

        void empty() {
            codeAt = 0;
            length = 0;
            parameters = 0;
            locals = 0;
            handlers = 0;
            blocks = 0;
            longBranches = 0;
            longJumps = 0;
            deepest = 0;
        }

        private boolean hasPlace(int place) {
            return place >= 0 && place < length && codeAt >= 0 && codeAt + place < row.length;
        }

        int valueAt(int place) {
            return hasPlace(place) ? row[codeAt + place] & 255 : 0;
        }

        int pairAt(int place) {
            return valueAt(place) << 8 | valueAt(place + 1);
        }

        int fourAt(int place) {
            return pairAt(place) << 16 | pairAt(place + 2);
        }

        boolean begins(int place) {
            return hasPlace(place) && (row[codeAt + place] & BEGINS) != 0;
        }

        boolean beginsBlock(int place) {
            return hasPlace(place) && (row[codeAt + place] & BEGINS_BLOCK) != 0;
        }

        void mark(int place, int what) {
            if (hasPlace(place)) {
                row[codeAt + place] |= what;
            }
        }

        boolean jumpsAt(int place) {
            return begins(place) && Kind.isJump(valueAt(place));
        }

        int sizeAt(int place) {
            return Kind.sizeOf(valueAt(place));
        }

        /** The place that the jump at a place leads to. */
        int targetOf(int place) {
            int near = valueAt(place + 1);
            if (valueAt(place) == Kind.LONG_JUMP) {
                return place + (short) (near << 8 | valueAt(place + 2));
            }
            return place + (byte) near;
        }

        int handlerNumber(int k, int what) {
            return Rows.at(table, k * HANDLER_NUMBERS + what);
        }

        void setHandlerNumber(int k, int what, int v) {
            Rows.put(table, k * HANDLER_NUMBERS + what, v);
        }

        /** Where BLOCK k begins. */
        int blockBegin(int k) {
            int before = 0;
            for (int place = 0; place < length; place++) {
                if (beginsBlock(place)) {
                    if (before == k) {
                        return place;
                    }
                    before++;
                }
            }
            return 0;
        }

        /** The SUM of the BLOCK that begins at a place. */
        int sumFrom(int begin, Prices prices) {
            int sum = 0;
            for (int place = begin; place < length; place++) {
                if (place > begin && beginsBlock(place)) {
                    break;
                }
                if (begins(place)) {
                    sum += prices.of(valueAt(place));
                }
            }
            return sum;
        }

        /** Where a KIND thrown at a place goes on; NONE: no HANDLER has it. */
        int handlerFor(int place, int kind) {
            for (int k = 0; k < handlers; k++) {
                int own = handlerNumber(k, KIND);
                boolean has = handlerNumber(k, FROM) <= place && place < handlerNumber(k, TO);
                if (has && (own == kind || own == 0)) {
                    return handlerNumber(k, AT);
                }
            }
            return NONE;
        }
    }

    /** METHODS with the row that their bytes lie in: the tape, a FILE, or what is REWRITTEN. */
    private static final class CodeSet {
        private final int[] row;
        private final Method[] methods = new Method[MOST_METHODS];
        private final Method none = new Method(new int[0]);
        int used;
        /** How many METHODS there are; 0: there is nothing such. */
        int count;

        CodeSet(int size) {
            row = new int[size];
            for (int m = 0; m < MOST_METHODS; m++) {
                methods[m] = new Method(row);
            }
        }

        void empty() {
            used = 0;
            count = 0;
        }

        void append(int b) {
            if (used < row.length) {
                Rows.put(row, used, b & 255);
                used++;
            }
        }

        void appendPair(int v) {
            append(v >> 8);
            append(v);
        }

        int valueAt(int i) {
            return i < used ? Rows.at(row, i) & 255 : 0;
        }

        int pairAt(int i) {
            return valueAt(i) << 8 | valueAt(i + 1);
        }

        boolean has(int m) {
            return m >= 0 && m < count;
        }

        Method method(int m) {
            return m >= 0 && m < MOST_METHODS ? methods[m] : none;
        }

        int codeBytes() {
            int sum = 0;
            for (int m = 0; m < count; m++) {
                sum += method(m).length;
            }
            return sum;
        }
    }

    /** Whether a set's bytes are a FILE; in looking, it learns the METHODS and marks their CODE. */
    private static final class FormCheck {
        private static final int LOCALS_AT = 1, LENGTH_AT = 2, CODE_AT = 4;
        private final DepthCheck depths = new DepthCheck();

        /** The first place at which it is not RIGHT. */
        int firstWrong(CodeSet set) {
            set.count = set.valueAt(0);
            if (set.used < 1 || set.count < 1 || set.count > MOST_METHODS) {
                return 0;
            }
            int at = 1;
            for (int m = 0; m < set.count; m++) {
                int wrong = wrongInMethod(set, set.method(m), at);
                if (wrong != RIGHT) {
                    return wrong;
                }
                at = endOf(set.method(m));
            }
            return at < set.used ? at : depths.firstWrong(set);
        }

        private int endOf(Method method) {
            return handlerPlace(method, method.handlers);
        }

        private int handlerPlace(Method method, int k) {
            return method.codeAt + method.length + 1 + HANDLER_BYTES * k;
        }

        private int wrongInMethod(CodeSet set, Method method, int at) {
            method.empty();
            int wrong = wrongNumber(set, method, at);
            wrong = wrong == RIGHT ? wrongInstruction(set, method) : wrong;
            wrong = wrong == RIGHT ? wrongHandler(set, method) : wrong;
            wrong = wrong == RIGHT ? wrongJump(method) : wrong;
            if (wrong == RIGHT) {
                markBlocks(method);
            }
            return wrong;
        }

        private int wrongNumber(CodeSet set, Method method, int at) {
            int end = set.used;
            method.parameters = set.valueAt(at);
            if (at >= end || method.parameters > MOST_PARAMETERS) {
                return at;
            }
            method.locals = set.valueAt(at + LOCALS_AT);
            if (at + LOCALS_AT >= end) {
                return end;
            }
            if (method.locals < method.parameters || method.locals > MOST_LOCALS) {
                return at + LOCALS_AT;
            }
            method.length = set.pairAt(at + LENGTH_AT);
            method.codeAt = at + CODE_AT;
            if (at + LENGTH_AT + 1 >= end) {
                return end;
            }
            if (method.length < 1 || method.length > MOST_CODE) {
                return at + LENGTH_AT;
            }
            return wrongHandlerCount(set, method);
        }

        private int wrongHandlerCount(CodeSet set, Method method) {
            int at = method.codeAt + method.length;
            if (at >= set.used) {
                return set.used;
            }
            method.handlers = set.valueAt(at);
            if (method.handlers > MOST_HANDLERS) {
                return at;
            }
            return endOf(method) > set.used ? set.used : RIGHT;
        }

        private int wrongInstruction(CodeSet set, Method method) {
            int place = 0;
            while (place < method.length) {
                int size = method.sizeAt(place);
                boolean whole = size > 0 && place + size <= method.length;
                if (!whole || !hasOperand(set, method, place)) {
                    return method.codeAt + place;
                }
                method.mark(place, Method.BEGINS);
                if (method.valueAt(place) == Kind.LONG_JUMP) {
                    method.longJumps++;
                }
                place += size;
            }
            return RIGHT;
        }

        /** Whether the LOCAL, METHOD or ARRAY that the instruction names is there. */
        private boolean hasOperand(CodeSet set, Method method, int place) {
            int kind = method.valueAt(place);
            int operand = method.valueAt(place + 1);
            if (kind == Kind.LOCAL || kind == Kind.KEEP) {
                return operand < method.locals;
            }
            if (kind == Kind.CALL) {
                return set.has(operand);
            }
            return !Kind.isOfArray(kind) || operand < ARRAYS;
        }

        private int wrongHandler(CodeSet set, Method method) {
            for (int k = 0; k < method.handlers; k++) {
                int at = handlerPlace(method, k);
                int from = set.pairAt(at);
                int to = set.pairAt(at + 2);
                int goesOn = set.pairAt(at + 4);
                int kind = set.valueAt(at + 6);
                boolean ends = to > from && (method.begins(to) || to == method.length);
                if (!method.begins(from) || !method.begins(goesOn) || !ends || kind > MOST_KIND) {
                    return at;
                }
                method.setHandlerNumber(k, Method.FROM, from);
                method.setHandlerNumber(k, Method.TO, to);
                method.setHandlerNumber(k, Method.AT, goesOn);
                method.setHandlerNumber(k, Method.KIND, kind);
            }
            return RIGHT;
        }

        private int wrongJump(Method method) {
            for (int place = 0; place < method.length; place++) {
                if (method.jumpsAt(place) && !method.begins(method.targetOf(place))) {
                    return method.codeAt + place;
                }
            }
            return RIGHT;
        }

        private void markBlocks(Method method) {
            method.mark(0, Method.BEGINS_BLOCK);
            for (int place = 0; place < method.length; place++) {
                if (method.jumpsAt(place)) {
                    method.mark(method.targetOf(place), Method.BEGINS_BLOCK);
                }
                boolean ends = method.begins(place) && Kind.endsWay(method.valueAt(place));
                if (ends || method.jumpsAt(place)) {
                    method.mark(place + method.sizeAt(place), Method.BEGINS_BLOCK);
                }
            }
            for (int k = 0; k < method.handlers; k++) {
                method.mark(method.handlerNumber(k, Method.AT), Method.BEGINS_BLOCK);
            }
            for (int place = 0; place < method.length; place++) {
                method.blocks += method.beginsBlock(place) ? 1 : 0;
            }
        }
    }

    /** Whether the stack is right at every place that one comes to. */
    private static final class DepthCheck {
        private static final int UNKNOWN = -1;
        private final int[] depths = new int[MOST_CODE];
        private final int[] gone = new int[MOST_CODE];
        /** No place below this one is still to be gone on from. */
        private int lowest;

        int firstWrong(CodeSet set) {
            for (int m = 0; m < set.count; m++) {
                int wrong = wrongPlace(set, set.method(m));
                if (wrong != RIGHT) {
                    return set.method(m).codeAt + wrong;
                }
            }
            return RIGHT;
        }

        private int wrongPlace(CodeSet set, Method method) {
            Arrays.fill(depths, UNKNOWN);
            Arrays.fill(gone, 0);
            lowest = 0;
            Rows.put(depths, 0, 0);
            for (int k = 0; k < method.handlers; k++) {
                int at = method.handlerNumber(k, Method.AT);
                if (at == 0) {
                    return 0;
                }
                Rows.put(depths, at, 1);
            }
            for (int turn = 0; turn < method.length && findLowest(method.length); turn++) {
                int wrong = goOn(set, method, lowest);
                if (wrong != RIGHT) {
                    return wrong;
                }
            }
            method.deepest = greatest();
            return RIGHT;
        }

        private boolean findLowest(int length) {
            while (lowest < length) {
                if (Rows.at(depths, lowest) != UNKNOWN && Rows.at(gone, lowest) == 0) {
                    return true;
                }
                lowest++;
            }
            return false;
        }

        private int goOn(CodeSet set, Method method, int place) {
            Rows.put(gone, place, 1);
            int kind = method.valueAt(place);
            int called = kind == Kind.CALL ? method.valueAt(place + 1) : NONE;
            int takes = Kind.takes(kind) + set.method(called).parameters;
            int left = Rows.at(depths, place) - takes;
            int after = left + Kind.gives(kind);
            int next = place + method.sizeAt(place);
            boolean falls = !Kind.endsWay(kind);
            if (left < 0 || after > MOST_DEPTH || falls && next >= method.length) {
                return place;
            }
            int wrong = falls ? reach(next, after) : RIGHT;
            int other = Kind.isJump(kind) ? reach(method.targetOf(place), after) : RIGHT;
            if (wrong == RIGHT || other == RIGHT) {
                return wrong == RIGHT ? other : wrong;
            }
            return Math.min(wrong, other);
        }

        private int reach(int place, int depth) {
            int known = Rows.at(depths, place);
            if (known == UNKNOWN) {
                Rows.put(depths, place, depth);
                lowest = Math.min(lowest, place);
                return RIGHT;
            }
            return known == depth ? RIGHT : place;
        }

        private int greatest() {
            int most = 0;
            for (int place = 0; place < MOST_CODE; place++) {
                most = Math.max(most, Rows.at(depths, place));
            }
            return most;
        }
    }

    /** Where everything of a METHOD comes to stand when it is REWRITTEN, and the writing of it. */
    private static final class Layout {
        private static final int LEAST_WAY = -128, MOST_WAY = 127;
        /** By places in the FILE: a BLOCK's SUM, the place then, a jump's way, whether it is long. */
        private final int[] sums = new int[MOST_CODE];
        private final int[] places = new int[MOST_CODE + 1];
        private final int[] ways = new int[MOST_CODE];
        private final int[] longs = new int[MOST_CODE];
        private boolean paying;

        /** Decides which jumps are long: how many bytes the CODE has then. */
        int plan(Method from, Prices prices, boolean withPayments) {
            paying = withPayments;
            takeSums(from, prices);
            Arrays.fill(longs, 0);
            int size = placeAll(from);
            for (int turn = 0; turn < from.length && lengthen(from); turn++) {
                size = placeAll(from);
            }
            return size;
        }

        /** Writes what was planned last behind what the set has, and tells of it in a METHOD. */
        void write(Method from, CodeSet set, Method to) {
            to.empty();
            to.parameters = from.parameters;
            to.locals = from.locals;
            to.blocks = from.blocks;
            to.codeAt = set.used;
            for (int place = 0; place < from.length; place++) {
                if (from.begins(place)) {
                    writeInstruction(from, place, set, to);
                }
            }
            to.length = set.used - to.codeAt;
            moveHandlers(from, to);
        }

        private void takeSums(Method from, Prices prices) {
            Arrays.fill(sums, 0);
            for (int place = 0; paying && place < from.length; place++) {
                if (from.beginsBlock(place)) {
                    Rows.put(sums, place, from.sumFrom(place, prices));
                }
            }
        }

        private int placeAll(Method from) {
            int at = 0;
            for (int place = 0; place < from.length; place++) {
                if (from.begins(place)) {
                    Rows.put(places, place, at);
                    at += bytesAhead(from, place) + bytesOf(from, place);
                }
            }
            Rows.put(places, from.length, at);
            return at;
        }

        /** Tells the ways by the places of now, and makes long what does not fit: whether any did not. */
        private boolean lengthen(Method from) {
            boolean any = false;
            for (int place = 0; place < from.length; place++) {
                if (from.jumpsAt(place)) {
                    int way = wayOf(from, place);
                    Rows.put(ways, place, way);
                    if (!isLong(place) && (way < LEAST_WAY || way > MOST_WAY)) {
                        Rows.put(longs, place, 1);
                        any = true;
                    }
                }
            }
            return any;
        }

        private boolean isLong(int place) {
            return Rows.at(longs, place) == 1;
        }

        private boolean paysTop(Method from, int place) {
            return paying && from.valueAt(place) == Kind.MAKE;
        }

        private int bytesAhead(Method from, int place) {
            return sumBytes(place) + (paysTop(from, place) ? Kind.PAY_TOP_BYTES : 0);
        }

        private int sumBytes(int place) {
            return Rows.at(sums, place) > 0 ? Kind.PAY_BYTES : 0;
        }

        private int bytesOf(Method from, int place) {
            int kind = from.valueAt(place);
            if (!Kind.isJump(kind)) {
                return Kind.sizeOf(kind);
            }
            if (!isLong(place)) {
                return Kind.BRANCH_BYTES;
            }
            return Kind.isBranch(kind) ? Kind.LONG_BRANCH_BYTES : Kind.sizeOf(Kind.LONG_JUMP);
        }

        /** From the jump, which stands behind its BLOCK's payment, to where the other BLOCK begins. */
        private int wayOf(Method from, int place) {
            int own = Rows.at(places, place) + sumBytes(place);
            return Rows.at(places, from.targetOf(place)) - own;
        }

        private void writeInstruction(Method from, int place, CodeSet set, Method to) {
            int sum = Rows.at(sums, place);
            if (sum > 0) {
                set.append(Kind.PAY);
                set.appendPair(sum >> 16);
                set.appendPair(sum);
            }
            if (paysTop(from, place)) {
                set.append(Kind.PAY_TOP);
            }
            if (Kind.isJump(from.valueAt(place))) {
                writeJump(from, place, set, to);
                return;
            }
            int size = from.sizeAt(place);
            for (int i = 0; i < size; i++) {
                set.append(from.valueAt(place + i));
            }
        }

        private void writeJump(Method from, int place, CodeSet set, Method to) {
            int kind = from.valueAt(place);
            int way = Rows.at(ways, place);
            if (!isLong(place)) {
                set.append(Kind.isBranch(kind) ? kind : Kind.JUMP);
                set.append(way);
                return;
            }
            if (Kind.isBranch(kind)) {
                set.append(Kind.opposite(kind));
                set.append(Kind.LONG_BRANCH_BYTES);
                way -= Kind.BRANCH_BYTES;
                to.longBranches++;
            } else {
                to.longJumps++;
            }
            set.append(Kind.LONG_JUMP);
            set.appendPair(way);
        }

        private void moveHandlers(Method from, Method to) {
            to.handlers = from.handlers;
            for (int k = 0; k < from.handlers; k++) {
                for (int what = Method.FROM; what <= Method.AT; what++) {
                    int place = from.handlerNumber(k, what);
                    to.setHandlerNumber(k, what, Rows.at(places, place));
                }
                to.setHandlerNumber(k, Method.KIND, from.handlerNumber(k, Method.KIND));
            }
        }
    }

    /** The ARRAYS of a run. */
    private static final class RunArrays {
        private static final int MOST = 1000;
        private final int[] sizes = new int[ARRAYS];
        private final int[] elements = new int[ARRAYS * MOST];

        void empty() {
            Arrays.fill(sizes, 0);
        }

        /** Makes an ARRAY of 0s: the KIND that is thrown, or 0. */
        int make(int a, int size) {
            if (size < 0) {
                return Machine.NEGATIVE_SIZE;
            }
            if (size > MOST) {
                return Machine.TOO_MUCH;
            }
            Rows.put(sizes, a, size);
            for (int i = 0; i < size; i++) {
                put(a, i, 0);
            }
            return 0;
        }

        int sizeOf(int a) {
            return Rows.at(sizes, a);
        }

        boolean has(int a, int i) {
            return i >= 0 && i < sizeOf(a);
        }

        int get(int a, int i) {
            return Rows.at(elements, a * MOST + i);
        }

        void put(int a, int i, int v) {
            Rows.put(elements, a * MOST + i, v);
        }
    }

    /** A METHOD under way. */
    private static final class Frame {
        private final int[] locals = new int[MOST_LOCALS];
        private final int[] stack = new int[MOST_DEPTH];
        private int top;
        Method method;
        /** Where its instruction stands: that of a caller is its CALL. */
        int place;

        Frame(Method first) {
            method = first;
        }

        void begin(Method begun) {
            method = begun;
            place = 0;
            top = 0;
            Arrays.fill(locals, 0);
        }

        int kind() {
            return method.valueAt(place);
        }

        int operand() {
            return method.valueAt(place + 1);
        }

        void push(int v) {
            if (top < MOST_DEPTH) {
                Rows.put(stack, top, v);
                top++;
            }
        }

        int pop() {
            if (top > 0) {
                top--;
            }
            return Rows.at(stack, top);
        }

        int peek() {
            return Rows.at(stack, top - 1);
        }

        int local(int n) {
            return Rows.at(locals, n);
        }

        void setLocal(int n, int v) {
            Rows.put(locals, n, v);
        }

        void goOnWith(int kind, int at) {
            top = 0;
            push(kind);
            place = at;
        }
    }

    /** Runs METHODS as they are REWRITTEN. */
    private static final class Machine {
        static final int BY_ZERO = 1, NO_ELEMENT = 2, NEGATIVE_SIZE = 3, TOO_MUCH = 4;
        private static final int ENDED = 0, STOPPED = 1, THROWN = 2, GOING = 3;
        private static final int MOST_UNDER_WAY = 60, MOST_DONE = 20000;
        /** Far above MOST_DONE with the payments ahead of each. */
        private static final int MOST_TURNS = 1000000;

        private final CodeSet set;
        private final Frame[] frames = new Frame[MOST_UNDER_WAY];
        final RunArrays arrays = new RunArrays();
        private int underWay, limit;
        int result, paid, done;

        Machine(CodeSet set) {
            this.set = set;
            for (int i = 0; i < MOST_UNDER_WAY; i++) {
                frames[i] = new Frame(set.method(0));
            }
        }

        void forget() {
            arrays.empty();
            underWay = 0;
            result = 0;
            paid = 0;
            done = 0;
        }

        int perform(int m, int x, int y, int most) {
            forget();
            limit = most;
            Frame first = frame(0);
            first.begin(set.method(m));
            if (first.method.parameters > 0) {
                first.setLocal(0, x);
            }
            if (first.method.parameters > 1) {
                first.setLocal(1, y);
            }
            underWay = 1;
            for (int turn = 0; turn < MOST_TURNS; turn++) {
                int outcome = goOn(frame(underWay - 1));
                if (outcome != GOING) {
                    return outcome;
                }
            }
            return STOPPED;
        }

        private Frame frame(int i) {
            return i >= 0 && i < MOST_UNDER_WAY ? frames[i] : frames[0];
        }

        private int goOn(Frame frame) {
            int kind = frame.kind();
            if (kind == Kind.PAY) {
                return pay(frame, frame.method.fourAt(frame.place + 1), Kind.PAY_BYTES);
            }
            if (kind == Kind.PAY_TOP) {
                return pay(frame, Math.max(0, frame.peek()), Kind.PAY_TOP_BYTES);
            }
            if (done >= MOST_DONE) {
                return STOPPED;
            }
            done++;
            if (kind == Kind.CALL) {
                return call(frame);
            }
            if (kind == Kind.END) {
                return leave(frame.pop());
            }
            if (Kind.isJump(kind)) {
                return jump(frame, kind);
            }
            int thrown = act(frame, kind);
            if (thrown != 0) {
                return raise(thrown);
            }
            frame.place += Kind.sizeOf(kind);
            return GOING;
        }

        private int pay(Frame frame, int due, int size) {
            if (due > limit - paid) {
                return STOPPED;
            }
            paid += due;
            frame.place += size;
            return GOING;
        }

        private int call(Frame caller) {
            if (underWay >= MOST_UNDER_WAY) {
                return STOPPED;
            }
            Method called = set.method(caller.operand());
            Frame inner = frame(underWay);
            inner.begin(called);
            for (int n = called.parameters - 1; n >= 0; n--) {
                inner.setLocal(n, caller.pop());
            }
            underWay++;
            return GOING;
        }

        private int leave(int v) {
            underWay--;
            if (underWay <= 0) {
                result = v;
                return ENDED;
            }
            Frame caller = frame(underWay - 1);
            caller.push(v);
            caller.place += Kind.sizeOf(Kind.CALL);
            return GOING;
        }

        private int raise(int thrown) {
            while (underWay > 0) {
                Frame frame = frame(underWay - 1);
                int at = frame.method.handlerFor(frame.place, thrown);
                if (at != NONE) {
                    frame.goOnWith(thrown, at);
                    return GOING;
                }
                underWay--;
            }
            result = thrown;
            return THROWN;
        }

        private int jump(Frame frame, int kind) {
            boolean taken = !Kind.isBranch(kind) || Kind.isTaken(kind, frame.pop());
            int next = frame.place + Kind.sizeOf(kind);
            frame.place = taken ? frame.method.targetOf(frame.place) : next;
            return GOING;
        }

        /** Does what goes on to the next instruction: the KIND that is thrown, or 0. */
        private int act(Frame frame, int kind) {
            switch (kind) {
                case Kind.NOTHING:
                    return 0;
                case Kind.BYTE:
                    frame.push((byte) frame.operand());
                    return 0;
                case Kind.PAIR:
                    frame.push((short) frame.method.pairAt(frame.place + 1));
                    return 0;
                case Kind.LOCAL:
                    frame.push(frame.local(frame.operand()));
                    return 0;
                case Kind.KEEP:
                    frame.setLocal(frame.operand(), frame.pop());
                    return 0;
                case Kind.DROP:
                    frame.pop();
                    return 0;
                case Kind.TWICE:
                    frame.push(frame.peek());
                    return 0;
                case Kind.NEGATE:
                    frame.push(-frame.pop());
                    return 0;
                case Kind.THROW:
                    return TOO_MUCH;
                default:
                    return Kind.isOfArray(kind) ? actOnArray(frame, kind) : actOnTwo(frame, kind);
            }
        }

        private int actOnArray(Frame frame, int kind) {
            int a = frame.operand();
            if (kind == Kind.MAKE) {
                return arrays.make(a, frame.pop());
            }
            if (kind == Kind.COUNT) {
                frame.push(arrays.sizeOf(a));
                return 0;
            }
            int v = kind == Kind.STORE ? frame.pop() : 0;
            int i = frame.pop();
            if (!arrays.has(a, i)) {
                return NO_ELEMENT;
            }
            if (kind == Kind.STORE) {
                arrays.put(a, i, v);
            } else {
                frame.push(arrays.get(a, i));
            }
            return 0;
        }

        private int actOnTwo(Frame frame, int kind) {
            int upper = frame.pop();
            int lower = frame.pop();
            if (kind == Kind.DIVIDE || kind == Kind.REMAIN) {
                if (upper == 0) {
                    return BY_ZERO;
                }
                frame.push(kind == Kind.DIVIDE ? lower / upper : lower % upper);
                return 0;
            }
            frame.push(joined(kind, lower, upper));
            return 0;
        }

        private int joined(int kind, int lower, int upper) {
            switch (kind) {
                case Kind.ADD:
                    return lower + upper;
                case Kind.SUBTRACT:
                    return lower - upper;
                case Kind.MULTIPLY:
                    return lower * upper;
                case Kind.AND:
                    return lower & upper;
                case Kind.OR:
                    return lower | upper;
                default:
                    return lower ^ upper;
            }
        }
    }
}
