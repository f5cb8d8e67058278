/**
 * CODE's instructions and "A RUN" (promises 10 to 14): each sentence with a boundary, at it and one beyond
 * it on either side.
 */
public final class RunEdgeTest {
    private static final int NONE = StepRewriter.NONE, BAD = StepRewriter.BAD;
    private static final int ENDED = Ask.ENDED, STOPPED = Ask.STOPPED, THROWN = Ask.THROWN;
    private static final int LOW = Integer.MIN_VALUE, HIGH = Integer.MAX_VALUE;
    /** CODE that throws the KIND of its number, with nothing on the stack before. */
    private static final int[][] THROWERS = {{}, {16, 1, 16, 0, 108}, {16, 0, 46, 0}, {16, 255, 188, 0}, {191}};
    private static final Due DUE = new Due("RunEdgeTest");
    private static final Ask ASK = new Ask(DUE);

    public static void main(String[] args) {
        signs();
        tops();
        fullStack();
        wrapAround();
        byZero();
        branches();
        makings();
        elementsOf();
        arraysOfARun();
        handlerRange();
        handlerKinds();
        firstHandler();
        thrownInTheCaller();
        parameters();
        limitBounds();
        paid();
        paidByTop();
        pastAllHandlers();
        sixty();
        twentyThousand();
        twentyThousandOfEachKind();
        stepsCounted();
        answers();
        elements();
        DUE.end();
    }

    private static void signs() {
        DUE.sentence("16 c: the byte c with its sign is pushed");
        for (int c : new int[] {-128, -127, -1, 0, 1, 126, 127}) {
            ASK.ends("16 " + (c & 255), 0, 0, c, 16, c & 255, 172);
        }
        DUE.sentence("17 c d: the two bytes with their sign");
        for (int v : new int[] {-32768, -32767, -257, -256, -255, -129, -128, -1, 0, 1, 127, 128, 255, 256, 257,
            32766, 32767}) {
            ASK.ends("17 of " + v, 0, 0, v, 17, v >> 8 & 255, v & 255, 172);
        }
    }

    private static void tops() {
        DUE.sentence("54 n: LOCAL n becomes the top, which goes. 87 the top goes. 89 it is pushed once more");
        ASK.ends("54", 7, 5, 7, 21, 0, 21, 1, 54, 2, 172);
        ASK.ends("what it became", 7, 5, 5, 21, 0, 21, 1, 54, 2, 21, 2, 172);
        ASK.ends("87", 7, 5, 7, 21, 0, 21, 1, 87, 172);
        ASK.ends("89", 7, 5, 7 + 5 + 5, 21, 0, 21, 1, 89, 96, 96, 172);
        ASK.ends("the lower one first", 7, 5, 2, 21, 0, 21, 1, 100, 172);
        ASK.ends("172 with others below", 7, 5, 5, 21, 0, 21, 1, 172);
    }

    private static void fullStack() {
        DUE.sentence("would have more than 20 behind it", "20 are held, in every run and every METHOD");
        // 0 to 18 and x are pushed, and added
        int[] code = {};
        for (int i = 0; i < 19; i++) {
            code = Files.join(code, Files.code(16, i));
        }
        code = Files.join(code, Files.code(21, 0), Files.times(19, 96));
        int sum = 18 * 19 / 2;
        StepRewriter x = Files.rewritten(Files.alone(Files.join(code, Files.code(172))));
        ASK.run("twenty", x, Ask.told(0, 5, 0, 100), ENDED, sum + 5, 40, 40);
        // STOPPED, and thrown, with twenty on the stack, and then from the first again
        int[] pushes = Files.first(code, 40);
        int[] adds = Files.times(19, 96);
        x = Files.rewritten(Files.alone(Files.join(pushes, Files.code(167, 2), adds, Files.code(172))));
        for (int turn = 0; turn < 3; turn++) {
            ASK.run("STOPPED with twenty", x, Ask.told(0, 5, 0, 40), STOPPED, 0, 21, 21);
            ASK.run("twenty again", x, Ask.told(0, 6, 0, 41), ENDED, sum + 6, 41, 41);
        }
        int[] thrower = Files.join(pushes, Files.code(191), Files.times(19, 89), adds, Files.code(172));
        x = Files.rewritten(Files.file(Files.method(1, 1, thrower, Files.handler(40, 41, 41, 4))));
        ASK.run("KIND 4 alone, and twenty of it", x, Ask.told(0, 5, 0, 100), ENDED, 80, 21 + 39, 21 + 39);
        // the caller has 19 on its stack, and the called one twenty
        int[] ones = Files.times(19, 16, 1);
        int[] caller = Files.method(0, 0, Files.join(ones, Files.code(184, 1), adds, Files.code(172)));
        int[] called = Files.method(0, 1, Files.join(code, Files.code(172)));
        x = Files.rewritten(Files.file(caller, called));
        ASK.run("twenty in both", x, Ask.told(0, 0, 0, 100), ENDED, 19 + sum, 19 + 5 + 20 + 40, 40 + 40);
    }

    private static void two(int kind, int x, int y, int answer) {
        ASK.ends(x + " " + kind + " " + y, x, y, answer, 21, 0, 21, 1, kind, 172);
    }

    private static void wrapAround() {
        DUE.sentence("values are ints");
        two(96, HIGH, 0, HIGH);
        two(96, HIGH, 1, LOW);
        two(96, LOW, -1, HIGH);
        two(100, LOW, 0, LOW);
        two(100, LOW, 1, HIGH);
        two(100, HIGH, -1, LOW);
        two(100, 0, LOW, LOW);
        two(104, HIGH, 2, -2);
        two(104, LOW, -1, LOW);
        two(104, 65536, 32767, 65536 * 32767);
        two(104, 65536, 32768, LOW);
        two(104, 65536, 65536, 0);
        two(126, -1, LOW, LOW);
        two(128, HIGH, LOW, -1);
        two(130, -1, LOW, HIGH);
        for (int v : new int[] {LOW, LOW + 1, -1, 0, 1, HIGH}) {
            ASK.ends("116 of " + v, v, 0, v == LOW ? LOW : -v, 21, 0, 116, 172);
        }
    }

    private static void byZero() {
        DUE.sentence("108 / (by 0: KIND 1 is thrown), 112 % (likewise)");
        for (int upper : new int[] {LOW, -7, -1, 0, 1, 7, HIGH}) {
            for (int lower : new int[] {LOW, LOW + 1, -8, -1, 0, 1, 8, HIGH}) {
                for (int kind : new int[] {108, 112}) {
                    StepRewriter x = Files.rewritten(Files.alone(21, 0, 21, 1, kind, 172));
                    long exact = upper == 0 ? 1 : kind == 108 ? (long) lower / upper : (long) lower % upper;
                    ASK.run(lower + " " + kind + " " + upper, x, Ask.told(0, lower, upper, 4),
                        upper == 0 ? THROWN : ENDED, (int) exact, 4, upper == 0 ? 3 : 4);
                }
            }
        }
    }

    private static void branches() {
        DUE.sentence("if the top, which goes, is = 0, not 0, below 0, 0 or more, above 0, 0 or less");
        for (int v : new int[] {LOW, -2, -1, 0, 1, 2, HIGH}) {
            boolean[] taken = {v == 0, v != 0, v < 0, v >= 0, v > 0, v <= 0};
            for (int kind = 153; kind <= 158; kind++) {
                // 9 lies below the top, and stays: 9 + 1 or 9 + 2
                ASK.ends(kind + " of " + v, v, 0, taken[kind - 153] ? 11 : 10,
                    16, 9, 21, 0, kind, 6, 16, 1, 96, 172, 16, 2, 96, 172);
                // the same by a long one
                int[] far = Files.join(Files.code(16, 9, 21, 0, kind, 6 + 20, 16, 1, 96, 172), Files.times(20, 172),
                    Files.code(16, 2, 96, 172));
                ASK.ends("long " + kind + " of " + v, v, 0, taken[kind - 153] ? 11 : 10, far);
                DUE.is("it is long", Files.rewritten(Files.alone(far)).told(0, true, 3), 1);
            }
        }
    }

    private static void makings() {
        DUE.sentence("(below 0: KIND 3 is thrown; above 1000: KIND 4 is thrown)");
        for (int a = 0; a < 4; a++) {
            StepRewriter x = Files.rewritten(Files.alone(21, 0, 188, a, 190, a, 172));
            for (int n : new int[] {LOW, -2, -1, 0, 1, 999, 1000, 1001, 1002, 99996}) {
                boolean made = n >= 0 && n <= 1000;
                int answer = made ? n : n < 0 ? 3 : 4;
                int counted = 4 + Math.max(0, n);
                ASK.run(n + " of ARRAY " + a, x, Ask.told(0, n, 0, 100000), made ? ENDED : THROWN, answer, counted,
                    made ? 4 : 2);
                DUE.is("it has", x.element(a, -1), made ? n : 0);
                DUE.is("the last one", x.element(a, Math.max(0, n - 1)), made && n > 0 ? 0 : NONE);
                DUE.is("none behind", x.element(a, made ? n : 0), NONE);
            }
        }
        // what is thrown leaves the ARRAY that there was
        StepRewriter x = Files.rewritten(Files.alone(16, 7, 188, 1, 21, 0, 188, 1, 190, 1, 172));
        ASK.run("made anew", x, Ask.told(0, 3, 0, 100), ENDED, 3, 16, 6);
        ASK.run("made anew with none", x, Ask.told(0, 0, 0, 100), ENDED, 0, 13, 6);
        ASK.run("not made anew", x, Ask.told(0, -1, 0, 100), THROWN, 3, 13, 4);
        DUE.is("the one there was", x.element(1, -1), 7);
    }

    private static void elementsOf() {
        for (int n : new int[] {0, 1, 2, 1000}) {
            int[] make = Files.code(17, n >> 8, n & 255, 188, 2);
            int[] fetch = Files.join(make, Files.code(21, 0, 46, 2, 172));
            int[] store = Files.join(make, Files.code(21, 0, 21, 1, 79, 2, 16, 5, 172));
            StepRewriter x = Files.rewritten(Files.alone(fetch));
            StepRewriter y = Files.rewritten(Files.alone(store));
            for (int i : new int[] {LOW, -1000, -1, 0, 1, n - 1, n, n + 1, 1001, 2000, HIGH}) {
                boolean there = i >= 0 && i < n;
                DUE.sentence("46 a: its element by the top, which it takes the place of (none such: KIND 2 is thrown)");
                int outcome = there ? ENDED : THROWN;
                ASK.run(i + " of " + n, x, Ask.told(0, i, 0, 5000), outcome, there ? 0 : 2, 5 + n, there ? 5 : 4);
                DUE.sentence("79 a: its element by the second from the top becomes the top; both go (likewise)");
                ASK.run(i + " of " + n, y, Ask.told(0, i, -9, 5000), outcome, there ? 5 : 2, 7 + n, there ? 7 : 5);
                DUE.is("it has", y.element(2, -1), n);
                if (i != -1) {
                    DUE.is("element " + i, y.element(2, i), there ? -9 : NONE);
                }
                for (int a = 0; a < 4; a++) {
                    DUE.is("another one", y.element(a, there && i == 0 ? 1 : 0),
                        a != 2 || n == 0 || there && i == 0 && n == 1 ? NONE : 0);
                }
            }
        }
    }

    private static void arraysOfARun() {
        DUE.sentence("ARRAYS are for a run, empty at first");
        for (int a = 0; a < 4; a++) {
            // how many ARRAY a has, before it is made with x and its last element becomes 8
            int[] code = {190, a, 21, 0, 188, a, 21, 0, 16, 1, 100, 16, 8, 79, a, 172};
            StepRewriter x = Files.rewritten(Files.alone(code));
            for (int n = 1; n <= 3; n++) {
                ASK.run("empty at first", x, Ask.told(0, n, 0, 100), ENDED, 0, 9 + n, 9);
                DUE.is("made", x.element(a, -1), n);
                DUE.is("its last", x.element(a, n - 1), 8);
                DUE.is("its first", x.element(a, 0), n == 1 ? 8 : 0);
            }
            ASK.run("STOPPED at once", x, Ask.told(0, 3, 0, 0), STOPPED, 0, 0, 0);
            DUE.is("empty then", x.element(a, -1), 0);
        }
    }

    private static void handlerRange() {
        DUE.sentence("FROM .. TO - 1 has the instruction's place");
        // 0: 0, 1: 0, 2: 191, 3: 0, 4: 0, 5: 172; what is thrown at 2
        int[] code = {0, 0, 191, 0, 0, 172};
        for (int from = 0; from <= 4; from++) {
            for (int to = from + 1; to <= 6; to++) {
                int[] file = Files.file(Files.method(0, 0, code, Files.handler(from, to, 5, 0)));
                boolean has = from <= 2 && 2 < to;
                ASK.run(from + " .. " + to, Files.rewritten(file), Ask.told(0, 0, 0, 100), has ? ENDED : THROWN, 4,
                    has ? 4 : 3, has ? 4 : 3);
            }
        }
        // 0: 16 255, 2: 188 0 with a 203, 4: 16 255, 6: 188 0 with a 203, 8: 191, 9: 172
        int[] makes = {16, 255, 188, 0, 16, 255, 188, 0, 191, 172};
        int[] begins = {0, 2, 4, 6, 8, 9, 10};
        for (int from = 0; from < 6; from++) {
            for (int to = from + 1; to <= 6; to++) {
                int[] handler = Files.handler(begins[from], begins[to], 9, 3);
                boolean has = from <= 1 && 1 < to;
                StepRewriter x = Files.rewritten(Files.file(Files.method(0, 0, makes, handler)));
                ASK.run("188, " + begins[from] + " .. " + begins[to], x, Ask.told(0, 0, 0, 100),
                    has ? ENDED : THROWN, 3, has ? 6 : 5, has ? 3 : 2);
            }
        }
    }

    private static void handlerKinds() {
        DUE.sentence("the stack is that KIND alone, it goes on AT", "of each KIND, by each KIND or 0");
        for (int thrown = 1; thrown <= 4; thrown++) {
            for (int kind = 0; kind <= 4; kind++) {
                // 50 lies below, and goes; AT has the KIND, and 100 is added to it
                int[] code = Files.join(Files.code(16, 50), THROWERS[thrown], Files.code(191, 16, 100, 96, 172));
                int at = 2 + THROWERS[thrown].length + 1;
                int[] file = Files.file(Files.method(0, 0, code, Files.handler(0, at, at, kind)));
                boolean caught = kind == 0 || kind == thrown;
                StepRewriter x = Files.rewritten(file);
                DUE.is("KIND " + thrown + " by " + kind, x.run(0, 0, 0, 100), caught ? ENDED : THROWN);
                DUE.is("its answer", x.answer(), caught ? 100 + thrown : thrown);
            }
        }
        int[] big = {17, 3, 233, 188, 0, 191, 172};
        StepRewriter x = Files.rewritten(Files.file(Files.method(0, 0, big, Files.handler(0, 5, 6, 4))));
        ASK.run("KIND 4 by 1001", x, Ask.told(0, 0, 0, 2000), ENDED, 4, 3 + 1001 + 1, 3);
    }

    private static void firstHandler() {
        DUE.sentence("a KIND goes to the first HANDLER whose KIND is it or 0");
        // eight ATs behind the 191, each ends with its number; the first k HANDLERS are of another KIND
        int[] code = {191};
        for (int k = 0; k < 8; k++) {
            code = Files.join(code, Files.code(16, k, 172));
        }
        for (int first = 0; first <= 8; first++) {
            int[][] handlers = new int[8][];
            for (int k = 0; k < 8; k++) {
                handlers[k] = Files.handler(0, 1, 1 + 3 * k, k < first ? 1 + k % 3 : k % 2 == 0 ? 0 : 4);
            }
            StepRewriter x = Files.rewritten(Files.file(Files.method(0, 0, code, handlers)));
            boolean caught = first < 8;
            ASK.run("HANDLER " + first, x, Ask.told(0, 0, 0, 100), caught ? ENDED : THROWN, caught ? first : 4,
                caught ? 3 : 1, caught ? 3 : 1);
        }
    }

    private static void thrownInTheCaller() {
        DUE.sentence("without one it is thrown in the caller at its 184; in the first METHOD the run ends");
        // METHOD 0: 0: 0, 1: 184 1, 3: 172, 4: 16 100, 6: 96, 7: 172
        int[] code = {0, 184, 1, 172, 16, 100, 96, 172};
        int[] begins = {0, 1, 3, 4};
        for (int thrown = 1; thrown <= 4; thrown++) {
            int[] thrower = Files.method(0, 0, Files.join(THROWERS[thrown], Files.code(191)));
            for (int from = 0; from < 3; from++) {
                for (int to = from + 1; to <= 3; to++) {
                    int[] handler = Files.handler(begins[from], begins[to], 4, thrown);
                    StepRewriter x = Files.rewritten(Files.file(Files.method(0, 0, code, handler), thrower));
                    boolean has = from <= 1 && 1 < to;
                    DUE.is(begins[from] + " .. " + begins[to], x.run(0, 0, 0, 100), has ? ENDED : THROWN);
                    DUE.is("its answer", x.answer(), has ? 100 + thrown : thrown);
                }
            }
        }
        // through all of 60 METHODS: 0: 21 0, 2: 153 to 12, 4: calls with one less, 11: 172, 12: 191
        int[] down = Files.method(1, 1, Files.code(21, 0, 153, 10, 21, 0, 16, 255, 96, 184, 0, 172, 191));
        StepRewriter x = Files.rewritten(Files.file(down));
        ASK.run("through 59 callers", x, Ask.told(0, 59, 0, 1000), THROWN, 4, 59 * 11 + 3, 59 * 6 + 3);
        int[] first = Files.method(1, 1, Files.code(21, 0, 184, 0, 172, 172), Files.handler(0, 4, 5, 4));
        x = Files.rewritten(Files.file(down, first));
        ASK.run("to the first of 60", x, Ask.told(1, 58, 0, 1000), ENDED, 4, 7 + 58 * 11 + 3 + 1, 2 + 58 * 6 + 3 + 1);
    }

    private static void parameters() {
        DUE.sentence("A RUN begins METHOD m with its PARAMETERS (those told, others 0; other LOCALS 0), with a LIMIT");
        for (int p = 0; p <= 4; p++) {
            for (int n = 0; n < 6; n++) {
                StepRewriter x = Files.rewritten(Files.file(Files.method(p, 6, Files.code(21, n, 172))));
                int want = n >= p ? 0 : n == 0 ? LOW : n == 1 ? HIGH : 0;
                ASK.run("LOCAL " + n + " of " + p, x, Ask.told(0, LOW, HIGH, 2), ENDED, want, 2, 2);
            }
        }
        // the LOCALS of the run before are gone: LOCAL 19 becomes 7 behind its use
        StepRewriter x = Files.rewritten(Files.file(Files.method(0, 20, Files.code(21, 19, 16, 7, 54, 19, 172))));
        ASK.run("LOCAL 19", x, Ask.told(0, 1, 1, 100), ENDED, 0, 4, 4);
        ASK.run("LOCAL 19 again", x, Ask.told(0, 1, 1, 100), ENDED, 0, 4, 4);
        DUE.sentence("184 m: METHOD m is called with as many on top as it has PARAMETERS (the last one on top)");
        for (int p = 0; p <= 4; p++) {
            for (int n = 0; n < 5; n++) {
                int[] called = Files.method(p, 5, Files.code(21, n, 16, 99, 54, n, 172));
                // 1 2 3 4 5 are on the stack; what is left below, and the answer on top: their sum
                int[] code = {16, 1, 16, 2, 16, 3, 16, 4, 16, 5, 184, 1, 54, 0};
                int left = 5 - p;
                int[] adds = Files.join(Files.times(left - 1, 96), Files.code(17, 0, 100, 104, 21, 0, 96, 172));
                x = Files.rewritten(Files.file(Files.method(0, 1, Files.join(code, adds)), called));
                DUE.is("run", x.run(0, 0, 0, 1000), ENDED);
                int handed = n < p ? left + n + 1 : 0;
                DUE.is("LOCAL " + n + " of " + p, x.answer(), 100 * (left * (left + 1) / 2) + handed);
            }
        }
    }

    private static void limitBounds() {
        DUE.sentence("with a LIMIT (0 .. 100000)");
        // a BLOCK of 99 times 1000, 999 and 1: 100000
        int[] code = Files.join(Files.times(99, 0), Files.code(16, 5, 172));
        StepRewriter x = Files.loaded(Files.alone(code));
        x.price(0, 1000);
        x.price(16, 999);
        x.rewrite();
        DUE.is("LIMIT -1", x.run(0, 0, 0, -1), BAD);
        ASK.run("LIMIT 0", x, Ask.told(0, 0, 0, 0), STOPPED, 0, 0, 0);
        ASK.run("LIMIT 1", x, Ask.told(0, 0, 0, 1), STOPPED, 0, 0, 0);
        ASK.run("LIMIT 99999", x, Ask.told(0, 0, 0, 99999), STOPPED, 0, 0, 0);
        ASK.run("LIMIT 100000", x, Ask.told(0, 0, 0, 100000), ENDED, 5, 100000, 101);
        DUE.is("LIMIT 100001", x.run(0, 0, 0, 100001), BAD);
        DUE.is("LIMIT LOW", x.run(0, 0, 0, LOW), BAD);
        DUE.is("LIMIT HIGH", x.run(0, 0, 0, HIGH), BAD);
        x.price(172, 2);
        x.rewrite();
        ASK.run("one more than all", x, Ask.told(0, 0, 0, 100000), STOPPED, 0, 0, 0);
    }

    private static void paid() {
        DUE.sentence("What is to be PAID and is above what is left of it is not");
        // BLOCKS of 2 (0: 0, 1: 167), 3 (3: 0 0, 167) and 2 (7: 16 5, 172)
        StepRewriter x = Files.rewritten(Files.alone(0, 167, 2, 0, 0, 167, 2, 16, 5, 172));
        int[] due = {0, 0, 2, 2, 2, 5, 5, 7, 7};
        for (int limit = 0; limit <= 8; limit++) {
            boolean all = limit >= 7;
            ASK.run("LIMIT " + limit, x, Ask.told(0, 0, 0, limit), all ? ENDED : STOPPED, all ? 5 : 0,
                due[limit], due[limit]);
        }
        // a BLOCK of 0 costs nothing, even if nothing is left
        x = Files.loaded(Files.alone(0, 167, 2, 16, 5, 172));
        x.price(16, 0);
        x.price(172, 0);
        x.rewrite();
        ASK.run("one too few", x, Ask.told(0, 0, 0, 1), STOPPED, 0, 0, 0);
        ASK.run("nothing is left", x, Ask.told(0, 0, 0, 2), ENDED, 5, 2, 4);
    }

    private static void paidByTop() {
        DUE.sentence("203: the top, which stays, is PAID, if it is above 0");
        StepRewriter x = Files.rewritten(Files.alone(21, 0, 188, 0, 190, 0, 172));
        for (int n : new int[] {-1, 0, 1, 2, 1000}) {
            int due = 4 + Math.max(0, n);
            int outcome = n < 0 ? THROWN : ENDED;
            ASK.run(n + ", just enough", x, Ask.told(0, n, 0, due), outcome, n < 0 ? 3 : n, due, n < 0 ? 2 : 4);
            ASK.run(n + ", one more", x, Ask.told(0, n, 0, due + 1), outcome, n < 0 ? 3 : n, due, n < 0 ? 2 : 4);
            ASK.run(n + ", one too few", x, Ask.told(0, n, 0, due - 1), STOPPED, 0, n > 0 ? 4 : 0, n > 0 ? 1 : 0);
            DUE.is("nothing was made", x.element(0, -1), 0);
        }
        for (int n : new int[] {99996, 99997, HIGH - 4, HIGH}) {
            boolean enough = n <= 99996;
            ASK.run(n + ", all there is", x, Ask.told(0, n, 0, 100000), enough ? THROWN : STOPPED, enough ? 4 : 0,
                enough ? 100000 : 4, enough ? 2 : 1);
        }
        // it stays: the 188 behind it takes it, and 9 lies below
        ASK.ends("it stays", 3, 0, 9, 16, 9, 21, 0, 188, 0, 172);
    }

    private static void pastAllHandlers() {
        DUE.sentence("the run is STOPPED, past all HANDLERS");
        int[][] all = {{0, 6, 8, 0}, {0, 6, 8, 1}, {0, 6, 8, 2}, {0, 6, 8, 3}, {0, 6, 8, 4}, {6, 9, 8, 0}};
        // 0: 17 3 232, 3: 188 0, 5: 0, 6: 16 5, 8: 172
        int[] code = {17, 3, 232, 188, 0, 0, 16, 5, 172};
        StepRewriter x = Files.rewritten(Files.file(Files.method(0, 0, code, all)));
        ASK.run("by its 202", x, Ask.told(0, 0, 0, 3), STOPPED, 0, 0, 0);
        ASK.run("by its 203", x, Ask.told(0, 0, 0, 1003), STOPPED, 0, 4, 1);
        ASK.run("by the last 202", x, Ask.told(0, 0, 0, 1004), STOPPED, 0, 1004, 4);
        ASK.run("not at all", x, Ask.told(0, 0, 0, 1005), ENDED, 5, 1005, 5);
        // by the called one's, with HANDLERS in the caller
        int[] caller = Files.method(0, 0, Files.code(184, 0, 172, 172), Files.handler(0, 2, 3, 0));
        x = Files.rewritten(Files.file(Files.method(0, 0, code, all), caller));
        ASK.run("by the called one's 203", x, Ask.told(1, 0, 0, 6 + 1003), STOPPED, 0, 10, 2);
    }

    private static void sixty() {
        DUE.sentence("A 184 when 60 METHODS are under way: STOPPED, too");
        // calls itself with one less, or ends: x more are under way at the most
        int[] down = {21, 0, 153, 10, 21, 0, 16, 255, 96, 184, 0, 172, 16, 7, 172};
        int[][] methods = {Files.method(1, 1, down),
            Files.method(1, 1, Files.code(21, 0, 184, 0, 87, 21, 0, 184, 0, 172, 172), Files.handler(0, 10, 10, 0))};
        StepRewriter x = Files.rewritten(Files.file(methods));
        for (int n = 57; n <= 61; n++) {
            boolean fits = n + 1 <= 60;
            int deep = Math.min(n, 60);
            ASK.run((n + 1) + " under way", x, Ask.told(0, n, 0, 1000), fits ? ENDED : STOPPED, fits ? 7 : 0,
                deep * 11 + (fits ? 4 : 0), fits ? n * 7 + 4 : 360);
        }
        // those that ended are no more under way
        ASK.run("60 under way twice", x, Ask.told(1, 58, 0, 2000), ENDED, 7, 14 + 2 * (58 * 11 + 4),
            6 + 2 * (58 * 7 + 4));
        ASK.run("61, past all HANDLERS", x, Ask.told(1, 59, 0, 2000), STOPPED, 0, 14 + 59 * 11, 2 + 59 * 6);
        // those that threw are no more under way, either
        int[] thrower = Files.method(1, 1, Files.code(21, 0, 153, 10, 21, 0, 16, 255, 96, 184, 0, 172, 191));
        int[] again = Files.method(1, 1, Files.code(21, 0, 184, 0, 172, 87, 21, 0, 184, 0, 172, 172),
            Files.handler(0, 4, 5, 4), Files.handler(5, 10, 11, 4));
        x = Files.rewritten(Files.file(thrower, again));
        ASK.run("60 under way and thrown twice", x, Ask.told(1, 58, 0, 2000), ENDED, 4, 7 + 8 + 1 + 2 * (58 * 11 + 3),
            2 + 3 + 1 + 2 * (58 * 6 + 3));
    }

    /** Does n steps, with the last one of some kind: 2850 turns of seven, and 21, 153, and 0s before it. */
    private static int[] steps(int n, int... last) {
        int[] loop = {21, 0, 153, 11, 21, 0, 16, 255, 96, 54, 0, 167, 256 - 11};
        return Files.join(loop, Files.times(n - 2850 * 7 - 2 - 1, 0), last);
    }

    private static void twentyThousand() {
        DUE.sentence("so it is when 20000 instructions were done, and one more would be");
        for (int n = 19998; n <= 20002; n++) {
            // the last but one is a 16
            int[] code = steps(n, 172);
            code = Files.join(Files.first(code, code.length - 2), Files.code(16, 5, 172));
            StepRewriter x = Files.rewritten(Files.alone(code));
            boolean ends = n <= 20000;
            ASK.run(n + " steps", x, Ask.told(0, 2850, 0, 100000), ends ? ENDED : STOPPED, ends ? 5 : 0, n,
                Math.min(n, 20000));
        }
        // a jump that is all of its METHOD, for ever
        StepRewriter x = Files.loaded(Files.alone(167, 0));
        x.price(167, 0);
        x.rewrite();
        ASK.run("for ever and for nothing", x, Ask.told(0, 0, 0, 0), STOPPED, 0, 0, 20000);
        x.price(167, 5);
        x.rewrite();
        ASK.run("the LIMIT is reached before", x, Ask.told(0, 0, 0, 99999), STOPPED, 0, 99995, 19999);
        // by calls: METHOD 1 is called again and again, and has two steps
        int[] caller = Files.method(0, 0, Files.code(184, 1, 87, 167, 253));
        x = Files.rewritten(Files.file(caller, Files.method(0, 0, Files.code(16, 5, 172))));
        ASK.run("by calls", x, Ask.told(0, 0, 0, 100000), STOPPED, 0, 4000 * 9 + 7, 20000);
    }

    private static void twentyThousandOfEachKind() {
        DUE.sentence("one more would be", "of whatever kind");
        int[][] last = {{191}, {184, 1}, {167, 0}};
        int[] called = Files.method(0, 0, Files.code(191));
        for (int[] one : last) {
            for (int n = 20000; n <= 20001; n++) {
                int[] code = steps(n, one);
                code = one[0] == 184 ? Files.join(code, Files.code(172)) : code;
                StepRewriter x = Files.rewritten(Files.file(Files.method(1, 1, code), called));
                boolean thrown = one[0] == 191 && n == 20000;
                DUE.is(one[0] + " is step " + n, x.run(0, 2850, 0, 100000), thrown ? THROWN : STOPPED);
                DUE.is("its answer", x.answer(), thrown ? 4 : 0);
                DUE.is("its steps", x.steps(), 20000);
            }
        }
        // no HANDLER has it
        int[] code = steps(20001, 172);
        code = Files.join(Files.first(code, code.length - 2), Files.code(16, 5, 172, 172));
        int at = code.length - 1;
        StepRewriter x = Files.rewritten(Files.file(Files.method(1, 1, code, Files.handler(0, at, at, 0))));
        ASK.run("past all HANDLERS", x, Ask.told(0, 2850, 0, 100000), STOPPED, 0, 20001, 20000);
    }

    private static void stepsCounted() {
        DUE.sentence("(202, 203 not counted; the one that threw, the 184 that was STOPPED, too)");
        StepRewriter x = Files.rewritten(Files.alone(0, 16, 3, 188, 0, 16, 5, 172));
        ASK.run("202, 203", x, Ask.told(0, 0, 0, 100), ENDED, 5, 8, 5);
        for (int thrown = 1; thrown <= 4; thrown++) {
            int[] steps = {0, 3, 2, 2, 1};
            x = Files.rewritten(Files.alone(Files.join(THROWERS[thrown], Files.code(191))));
            DUE.is("KIND " + thrown, x.run(0, 0, 0, 100), THROWN);
            DUE.is("the one that threw", x.steps(), steps[thrown]);
        }
        x = Files.rewritten(Files.file(Files.method(0, 0, Files.code(184, 0, 172))));
        ASK.run("the 184 that was STOPPED", x, Ask.told(0, 0, 0, 1000), STOPPED, 0, 60 * 6, 60);
        x = Files.rewritten(Files.alone(16, 5, 188, 0, 191));
        ASK.run("the 188 that was not PAID is not done", x, Ask.told(0, 0, 0, 7), STOPPED, 0, 3, 1);
    }

    private static void answers() {
        DUE.sentence("What the latest run() ended with, or the KIND; 0 of one that was STOPPED, and before");
        StepRewriter x = Files.rewritten(Files.alone(16, 9, 21, 0, 108, 172));
        DUE.is("before", x.answer(), 0);
        DUE.is("counted before", x.counted(), 0);
        DUE.is("steps before", x.steps(), 0);
        ASK.run("ended", x, Ask.told(0, 1, 0, 4), ENDED, 9, 4, 4);
        ASK.run("STOPPED", x, Ask.told(0, 1, 0, 3), STOPPED, 0, 0, 0);
        ASK.run("a KIND", x, Ask.told(0, 0, 0, 4), THROWN, 1, 4, 3);
        ASK.run("ended with 0", x, Ask.told(0, 10, 0, 4), ENDED, 0, 4, 4);
        ASK.run("ended below 0", x, Ask.told(0, -9, 0, 4), ENDED, -1, 4, 4);
        x.clear();
        DUE.is("behind clear", x.answer(), 0);
        DUE.is("counted behind clear", x.counted(), 0);
        DUE.is("steps behind clear", x.steps(), 0);
    }

    private static void elements() {
        DUE.sentence("i = -1: how many it has. BAD: no such ARRAY; NONE: no such element");
        // ARRAY a has a + 1 elements, and the last one is what its name tells: NONE, STATE, BAD, FULL
        int[] code = {};
        for (int a = 0; a < 4; a++) {
            code = Files.join(code, Files.code(16, a + 1, 188, a, 16, a, 16, -1 - a, 79, a));
        }
        StepRewriter x = Files.rewritten(Files.alone(Files.join(code, Files.code(191))));
        for (int turn = 0; turn < 2; turn++) {
            for (int a = 0; a < 4; a++) {
                DUE.is("how many of " + a, x.element(a, -1), turn * (a + 1));
                DUE.is("-2 of " + a, x.element(a, -2), NONE);
                for (int i = 0; i <= a + 2; i++) {
                    DUE.is(i + " of " + a, x.element(a, i), turn == 0 || i > a ? NONE : i == a ? -1 - a : 0);
                }
                DUE.is("LOW of " + a, x.element(a, LOW), NONE);
                DUE.is("HIGH of " + a, x.element(a, HIGH), NONE);
            }
            for (int a : new int[] {LOW, -2, -1, 4, 5, HIGH}) {
                for (int i : new int[] {-2, -1, 0, 1}) {
                    DUE.is(i + " of " + a, x.element(a, i), BAD);
                }
            }
            ASK.run("made", x, Ask.told(0, 0, 0, 100), THROWN, 4, 21 + 10, 21);
        }
    }
}
