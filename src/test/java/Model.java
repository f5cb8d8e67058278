import java.util.ArrayDeque;
import java.util.ArrayList;
import java.util.Arrays;
import java.util.Deque;
import java.util.HashMap;
import java.util.HashSet;
import java.util.IdentityHashMap;
import java.util.List;
import java.util.Map;
import java.util.Set;
import java.util.TreeMap;
import java.util.TreeSet;

/**
 * The document once more, written the other way round: instructions are objects that know what they
 * lead to, and a RUN goes over the FILE and pays where a BLOCK begins. It never looks at rewritten bytes.
 */
final class Model {
    static final int NONE = -1, STATE = -2, BAD = -3, FULL = -4;
    private static final Map<Integer, String> SHAPES = new HashMap<>();

    static {
        // operands, then how many are taken and given
        put("-00", 0);
        put("c01", 16);
        put("w01", 17);
        put("l01", 21);
        put("l10", 54);
        put("-10", 87);
        put("-12", 89);
        put("-21", 96, 100, 104, 108, 112, 126, 128, 130);
        put("-11", 116);
        put("j10", 153, 154, 155, 156, 157, 158);
        put("j00", 167);
        put("J00", 168);
        put("-10", 172);
        put("m01", 184);
        put("a10", 188);
        put("a01", 190);
        put("a11", 46);
        put("a20", 79);
        put("-00", 191);
    }

    private static void put(String shape, int... kinds) {
        for (int kind : kinds) {
            SHAPES.put(kind, shape);
        }
    }

    static final class Wrong extends RuntimeException {
        private static final long serialVersionUID = 1L;
        final int place;

        Wrong(int place) {
            this.place = place;
        }
    }

    static final class Ins {
        int kind, at, operand, size;
        Ins target, next;

        boolean branch() {
            return kind >= 153 && kind <= 158;
        }

        boolean jump() {
            return branch() || kind == 167 || kind == 168;
        }

        boolean ends() {
            return kind == 167 || kind == 168 || kind == 172 || kind == 191;
        }
    }

    static final class Handler {
        Ins from, to, at;
        int kind;
    }

    static final class Meth {
        int parameters, locals, start, deepest;
        int[] bytes;
        TreeMap<Integer, Ins> code = new TreeMap<>();
        List<Handler> handlers = new ArrayList<>();
        Set<Ins> blocks = new HashSet<>();

        List<Integer> blockPlaces() {
            TreeSet<Integer> all = new TreeSet<>();
            for (Ins i : blocks) {
                all.add(i.at);
            }
            return new ArrayList<>(all);
        }

        int sum(int begin, Map<Integer, Integer> prices) {
            int sum = 0;
            for (Ins i = code.get(begin); i != null; i = i.next) {
                if (i.at != begin && blocks.contains(i)) {
                    break;
                }
                sum += prices.get(i.kind);
            }
            return sum;
        }
    }

    /** A METHOD laid out anew. */
    static final class Laid {
        int[] bytes;
        int[][] handlers;
        int longBranches, longJumps, blocks;
        Map<Ins, Integer> sums = new IdentityHashMap<>();
        Set<Ins> longs = new HashSet<>();
    }

    private List<Integer> tape = new ArrayList<>();
    private List<Meth> file;
    private List<Laid> laid;
    private List<Meth> laidFrom;
    private final Map<Integer, Integer> prices = new HashMap<>();
    private int result, paid, done;
    private int[][] arrays = new int[4][0];

    Model() {
        firstPrices();
    }

    private void firstPrices() {
        for (int kind : SHAPES.keySet()) {
            prices.put(kind, kind == 184 ? 5 : 1);
        }
    }

    int feed(long w, int n) {
        if (n < 1 || n > 8) {
            return BAD;
        }
        if (tape.size() + n > 6000) {
            return FULL;
        }
        for (int k = n; k > 0; k--) {
            tape.add((int) (w >>> 8 * (k - 1)) & 255);
        }
        return tape.size();
    }

    int load() {
        int[] bytes = tape.stream().mapToInt(i -> i).toArray();
        tape.clear();
        try {
            file = parse(bytes);
            laid = null;
            return file.size();
        } catch (Wrong e) {
            return -10 - e.place;
        }
    }

    private static int get(int[] bytes, int at) {
        if (at >= bytes.length) {
            throw new Wrong(bytes.length);
        }
        return bytes[at];
    }

    private static int get(int[] bytes, int at, int least, int most) {
        int v = get(bytes, at);
        if (v < least || v > most) {
            throw new Wrong(at);
        }
        return v;
    }

    private static List<Meth> parse(int[] bytes) {
        int count = get(bytes, 0, 1, 8);
        List<Meth> all = new ArrayList<>();
        int at = 1;
        for (int m = 0; m < count; m++) {
            Meth meth = new Meth();
            meth.parameters = get(bytes, at, 0, 4);
            meth.locals = get(bytes, at + 1, meth.parameters, 20);
            int high = get(bytes, at + 2);
            int length = high * 256 + get(bytes, at + 3);
            if (length < 1 || length > 2000) {
                throw new Wrong(at + 2);
            }
            meth.start = at + 4;
            at += 4 + length;
            int handlers = get(bytes, at, 0, 8);
            at++;
            if (handlers > 0) {
                get(bytes, at + 7 * handlers - 1);
            }
            meth.bytes = Arrays.copyOfRange(bytes, meth.start, meth.start + length);
            instructions(meth, count);
            handlers(meth, bytes, at, handlers);
            jumps(meth);
            blocks(meth);
            at += 7 * handlers;
            all.add(meth);
        }
        if (at < bytes.length) {
            throw new Wrong(at);
        }
        for (Meth meth : all) {
            depths(meth, all);
        }
        return all;
    }

    private static void instructions(Meth meth, int count) {
        Ins last = null;
        for (int p = 0; p < meth.bytes.length; p += last.size) {
            Ins i = new Ins();
            i.at = p;
            i.kind = meth.bytes[p];
            String shape = SHAPES.get(i.kind);
            if (shape == null) {
                throw new Wrong(meth.start + p);
            }
            char form = shape.charAt(0);
            i.size = form == '-' ? 1 : form == 'w' || form == 'J' ? 3 : 2;
            if (p + i.size > meth.bytes.length) {
                throw new Wrong(meth.start + p);
            }
            if (i.size == 2) {
                i.operand = meth.bytes[p + 1];
            } else if (i.size == 3) {
                i.operand = meth.bytes[p + 1] * 256 + meth.bytes[p + 2];
            }
            int most = form == 'l' ? meth.locals : form == 'm' ? count : form == 'a' ? 4 : 1 << 16;
            if (i.operand >= most) {
                throw new Wrong(meth.start + p);
            }
            if (form == 'c' || form == 'j') {
                i.operand = i.operand > 127 ? i.operand - 256 : i.operand;
            } else if (form == 'w' || form == 'J') {
                i.operand = i.operand > 32767 ? i.operand - 65536 : i.operand;
            }
            if (last != null) {
                last.next = i;
            }
            last = i;
            meth.code.put(p, i);
        }
    }

    private static void handlers(Meth meth, int[] bytes, int at, int n) {
        for (int k = 0; k < n; k++) {
            int b = at + 7 * k;
            int from = bytes[b] * 256 + bytes[b + 1];
            int to = bytes[b + 2] * 256 + bytes[b + 3];
            int goesOn = bytes[b + 4] * 256 + bytes[b + 5];
            Handler h = new Handler();
            h.from = meth.code.get(from);
            h.to = meth.code.get(to);
            h.at = meth.code.get(goesOn);
            h.kind = bytes[b + 6];
            boolean ends = h.to != null || to == meth.bytes.length;
            if (h.from == null || h.at == null || !ends || to <= from || h.kind > 4) {
                throw new Wrong(b);
            }
            meth.handlers.add(h);
        }
    }

    private static void jumps(Meth meth) {
        for (Ins i : meth.code.values()) {
            if (i.jump()) {
                i.target = meth.code.get(i.at + i.operand);
                if (i.target == null) {
                    throw new Wrong(meth.start + i.at);
                }
            }
        }
    }

    private static void blocks(Meth meth) {
        meth.blocks.add(meth.code.get(0));
        for (Ins i : meth.code.values()) {
            if (i.target != null) {
                meth.blocks.add(i.target);
            }
            if ((i.jump() || i.ends()) && i.next != null) {
                meth.blocks.add(i.next);
            }
        }
        for (Handler h : meth.handlers) {
            meth.blocks.add(h.at);
        }
    }

    private static void depths(Meth meth, List<Meth> all) {
        Map<Integer, Integer> known = new HashMap<>();
        TreeSet<Integer> open = new TreeSet<>();
        known.put(0, 0);
        open.add(0);
        for (Handler h : meth.handlers) {
            if (h.at.at == 0) {
                throw new Wrong(meth.start);
            }
            known.put(h.at.at, 1);
            open.add(h.at.at);
        }
        while (!open.isEmpty()) {
            Ins i = meth.code.get(open.pollFirst());
            String shape = SHAPES.get(i.kind);
            int takes = i.kind == 184 ? all.get(i.operand).parameters : shape.charAt(1) - '0';
            int left = known.get(i.at) - takes;
            int after = left + shape.charAt(2) - '0';
            boolean past = !i.ends() && i.next == null;
            if (left < 0 || after > 20 || past) {
                throw new Wrong(meth.start + i.at);
            }
            TreeSet<Integer> wrong = new TreeSet<>();
            List<Ins> ways = new ArrayList<>();
            if (!i.ends()) {
                ways.add(i.next);
            }
            if (i.jump()) {
                ways.add(i.target);
            }
            for (Ins way : ways) {
                if (!known.containsKey(way.at)) {
                    known.put(way.at, after);
                    open.add(way.at);
                } else if (known.get(way.at) != after) {
                    wrong.add(way.at);
                }
            }
            if (!wrong.isEmpty()) {
                throw new Wrong(meth.start + wrong.first());
            }
        }
        meth.deepest = known.values().stream().mapToInt(d -> d).max().getAsInt();
    }

    int price(int kind, int v) {
        if (!SHAPES.containsKey(kind) || v < 0 || v > 1000) {
            return BAD;
        }
        return prices.put(kind, v);
    }

    /** Grows jumps one at a time: which of them is first must not matter. */
    private static Laid lay(Meth meth, Map<Integer, Integer> prices) {
        Laid l = new Laid();
        l.blocks = meth.blocks.size();
        for (Ins begin : meth.blocks) {
            int sum = prices == null ? 0 : meth.sum(begin.at, prices);
            if (sum > 0) {
                l.sums.put(begin, sum);
            }
        }
        boolean pays = prices != null;
        while (true) {
            Map<Ins, Integer> start = new IdentityHashMap<>();
            Map<Ins, Integer> own = new IdentityHashMap<>();
            int at = 0;
            for (Ins i : meth.code.values()) {
                start.put(i, at);
                at += (l.sums.containsKey(i) ? 5 : 0) + (pays && i.kind == 188 ? 1 : 0);
                own.put(i, at);
                boolean isLong = l.longs.contains(i);
                at += !i.jump() ? i.size : !isLong ? 2 : i.branch() ? 5 : 3;
            }
            Ins grown = null;
            for (Ins i : meth.code.descendingMap().values()) {
                if (i.jump() && !l.longs.contains(i)) {
                    int way = start.get(i.target) - own.get(i);
                    if (way != (byte) way) {
                        grown = i;
                        break;
                    }
                }
            }
            if (grown == null) {
                emit(meth, l, start, own, at, pays);
                return l;
            }
            l.longs.add(grown);
        }
    }

    private static void emit(Meth meth, Laid l, Map<Ins, Integer> start, Map<Ins, Integer> own,
            int size, boolean pays) {
        l.bytes = new int[size];
        for (Ins i : meth.code.values()) {
            if (l.sums.containsKey(i)) {
                int at = start.get(i);
                l.bytes[at] = 202;
                for (int b = 0; b < 4; b++) {
                    l.bytes[at + 4 - b] = l.sums.get(i) >> 8 * b & 255;
                }
            }
            int at = own.get(i);
            if (pays && i.kind == 188) {
                l.bytes[at - 1] = 203;
            }
            if (!i.jump()) {
                System.arraycopy(meth.bytes, i.at, l.bytes, at, i.size);
                continue;
            }
            int way = start.get(i.target) - at;
            if (!l.longs.contains(i)) {
                l.bytes[at] = i.branch() ? i.kind : 167;
                l.bytes[at + 1] = way & 255;
                continue;
            }
            if (i.branch()) {
                l.bytes[at] = i.kind % 2 == 1 ? i.kind + 1 : i.kind - 1;
                l.bytes[at + 1] = 5;
                at += 2;
                way -= 2;
                l.longBranches++;
            } else {
                l.longJumps++;
            }
            l.bytes[at] = 168;
            l.bytes[at + 1] = way >> 8 & 255;
            l.bytes[at + 2] = way & 255;
        }
        l.handlers = new int[meth.handlers.size()][];
        for (int k = 0; k < l.handlers.length; k++) {
            Handler h = meth.handlers.get(k);
            int to = h.to == null ? size : start.get(h.to);
            l.handlers[k] = new int[] {start.get(h.from), to, start.get(h.at), h.kind};
        }
    }

    int rewrite() {
        if (file == null) {
            return STATE;
        }
        laid = null;
        List<Laid> all = new ArrayList<>();
        int sum = 0;
        for (Meth meth : file) {
            Laid l = lay(meth, prices);
            if (l.bytes.length > 4000) {
                return -10 - all.size();
            }
            sum += l.bytes.length;
            all.add(l);
        }
        laid = all;
        laidFrom = file;
        return sum;
    }

    private boolean absent(boolean written) {
        return written ? laid == null : file == null;
    }

    private boolean no(int m) {
        return m < 0 || m >= file.size();
    }

    int told(int m, boolean written, int what) {
        if (absent(written)) {
            return STATE;
        }
        if (no(m) || what < 0 || what > 5) {
            return BAD;
        }
        Meth meth = file.get(m);
        if (written) {
            Laid l = laid.get(m);
            int[] all = {l.bytes.length, l.blocks, l.handlers.length, l.longBranches, l.longJumps, NONE};
            return all[what];
        }
        int longs = (int) meth.code.values().stream().filter(i -> i.kind == 168).count();
        int[] all = {meth.bytes.length, meth.blocks.size(), meth.handlers.size(), 0, longs, meth.deepest};
        return all[what];
    }

    int byteAt(int m, boolean written, int i) {
        if (absent(written)) {
            return STATE;
        }
        if (no(m)) {
            return BAD;
        }
        int[] bytes = written ? laid.get(m).bytes : file.get(m).bytes;
        return i < 0 || i >= bytes.length ? BAD : bytes[i];
    }

    int handler(int m, boolean written, int k, int what) {
        if (absent(written)) {
            return STATE;
        }
        if (no(m) || k < 0 || k >= file.get(m).handlers.size() || what < 0 || what > 3) {
            return BAD;
        }
        if (written) {
            return laid.get(m).handlers[k][what];
        }
        Meth meth = file.get(m);
        Handler h = meth.handlers.get(k);
        int to = h.to == null ? meth.bytes.length : h.to.at;
        return new int[] {h.from.at, to, h.at.at, h.kind}[what];
    }

    int block(int m, int k, int what) {
        if (file == null) {
            return STATE;
        }
        if (no(m) || k < 0 || k >= file.get(m).blocks.size() || what < 0 || what > 1) {
            return BAD;
        }
        int begin = file.get(m).blockPlaces().get(k);
        return what == 0 ? begin : file.get(m).sum(begin, prices);
    }

    private static final class Stopped extends RuntimeException {
        private static final long serialVersionUID = 1L;
    }

    private static final class Thrown extends RuntimeException {
        private static final long serialVersionUID = 1L;
        final int kind;

        Thrown(int kind) {
            this.kind = kind;
        }
    }

    int run(int m, int x, int y, int limit) {
        if (laid == null) {
            return STATE;
        }
        if (no(m) || limit < 0 || limit > 100000) {
            return BAD;
        }
        result = 0;
        paid = 0;
        done = 0;
        arrays = new int[4][0];
        int[] told = {x, y, 0, 0};
        try {
            result = go(m, Arrays.copyOf(told, laidFrom.get(m).parameters), limit, 1);
            return 0;
        } catch (Stopped e) {
            return 1;
        } catch (Thrown e) {
            result = e.kind;
            return 2;
        }
    }

    private void pay(int v, int limit) {
        if (paid + (long) v > limit) {
            throw new Stopped();
        }
        paid += v;
    }

    private int go(int m, int[] told, int limit, int underWay) {
        Meth meth = laidFrom.get(m);
        Laid l = laid.get(m);
        int[] locals = Arrays.copyOf(told, meth.locals);
        Deque<Integer> stack = new ArrayDeque<>();
        Ins i = meth.code.get(0);
        while (true) {
            if (l.sums.containsKey(i)) {
                pay(l.sums.get(i), limit);
            }
            if (i.kind == 188) {
                pay(Math.max(0, stack.peek()), limit);
            }
            count();
            try {
                if (i.kind == 172) {
                    return stack.pop();
                }
                if (i.kind == 184) {
                    if (underWay == 60) {
                        throw new Stopped();
                    }
                    int[] handed = new int[laidFrom.get(i.operand).parameters];
                    for (int k = handed.length - 1; k >= 0; k--) {
                        handed[k] = stack.pop();
                    }
                    stack.push(go(i.operand, handed, limit, underWay + 1));
                    i = i.next;
                    continue;
                }
                boolean led = act(i, stack, locals);
                if (led && i.branch() && l.longs.contains(i)) {
                    count();
                }
                i = led ? i.target : i.next;
            } catch (Thrown e) {
                i = caught(meth, i, e);
                stack.clear();
                stack.push(e.kind);
            }
        }
    }

    private void count() {
        if (done == 20000) {
            throw new Stopped();
        }
        done++;
    }

    private static Ins caught(Meth meth, Ins i, Thrown e) {
        for (Handler h : meth.handlers) {
            boolean inside = i.at >= h.from.at && (h.to == null || i.at < h.to.at);
            if (inside && (h.kind == 0 || h.kind == e.kind)) {
                return h.at;
            }
        }
        throw e;
    }

    private boolean act(Ins i, Deque<Integer> stack, int[] locals) {
        String shape = SHAPES.get(i.kind);
        if (shape.equals("-21")) {
            int b = stack.pop();
            int a = stack.pop();
            if (b == 0 && (i.kind == 108 || i.kind == 112)) {
                throw new Thrown(1);
            }
            stack.push(i.kind == 96 ? a + b : i.kind == 100 ? a - b : i.kind == 104 ? a * b
                    : i.kind == 108 ? a / b : i.kind == 112 ? a % b : i.kind == 126 ? a & b
                    : i.kind == 128 ? a | b : a ^ b);
            return false;
        }
        if (i.branch()) {
            int sign = Integer.signum(stack.pop());
            int[] signs = {1 << 1, 1 | 1 << 2, 1, 1 << 1 | 1 << 2, 1 << 2, 1 | 1 << 1};
            return (signs[i.kind - 153] >> sign + 1 & 1) == 1;
        }
        switch (i.kind) {
            case 16, 17 -> stack.push(i.operand);
            case 21 -> stack.push(locals[i.operand]);
            case 54 -> locals[i.operand] = stack.pop();
            case 87 -> stack.pop();
            case 89 -> stack.push(stack.peek());
            case 116 -> stack.push(-stack.pop());
            case 191 -> throw new Thrown(4);
            case 188 -> {
                int n = stack.pop();
                if (n < 0 || n > 1000) {
                    throw new Thrown(n < 0 ? 3 : 4);
                }
                arrays[i.operand] = new int[n];
            }
            case 190 -> stack.push(arrays[i.operand].length);
            case 46 -> stack.push(arrays[i.operand][index(i, stack.pop())]);
            case 79 -> {
                int v = stack.pop();
                arrays[i.operand][index(i, stack.pop())] = v;
            }
            default -> { }
        }
        return i.kind == 167 || i.kind == 168;
    }

    private int index(Ins i, int k) {
        if (k < 0 || k >= arrays[i.operand].length) {
            throw new Thrown(2);
        }
        return k;
    }

    int answer() {
        return result;
    }

    int counted() {
        return paid;
    }

    int steps() {
        return done;
    }

    int element(int a, int i) {
        if (a < 0 || a > 3) {
            return BAD;
        }
        return i == -1 ? arrays[a].length : i < 0 || i >= arrays[a].length ? NONE : arrays[a][i];
    }

    int unwrite() {
        if (laid == null) {
            return STATE;
        }
        List<int[]> methods = new ArrayList<>();
        int sum = 0;
        for (Meth meth : file) {
            Laid l = lay(meth, null);
            sum += l.bytes.length;
            methods.add(Files.method(meth.parameters, meth.locals, l.bytes, l.handlers));
        }
        file = parse(Files.file(methods.toArray(new int[0][])));
        return sum;
    }

    void clear() {
        tape.clear();
        file = null;
        laid = null;
        firstPrices();
        result = 0;
        paid = 0;
        done = 0;
        arrays = new int[4][0];
    }
}
