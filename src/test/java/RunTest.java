/** Promises 10 to 14: run, answer, counted, steps, element. */
public final class RunTest {
    private static final int NONE = StepRewriter.NONE, STATE = StepRewriter.STATE, BAD = StepRewriter.BAD;
    private static final int ENDED = Ask.ENDED, STOPPED = Ask.STOPPED, THROWN = Ask.THROWN;
    private static final int LOW = Integer.MIN_VALUE, HIGH = Integer.MAX_VALUE;
    private static final Due DUE = new Due("RunTest");
    private static final Ask ASK = new Ask(DUE);

    public static void main(String[] args) {
        values();
        ofTwo();
        branches();
        longBranch();
        parameters();
        calls();
        underWay();
        makings();
        elements();
        thrown();
        thrownThroughCalls();
        handlerBounds();
        limits();
        stepsLimit();
        refused();
        DUE.end();
    }

    private static void values() {
        ASK.ends("16", 0, 0, 127, 16, 127, 172);
        ASK.ends("16 with its sign", 0, 0, -128, 16, 128, 172);
        ASK.ends("17", 0, 0, 32767, 17, 127, 255, 172);
        ASK.ends("17 with its sign", 0, 0, -32768, 17, 128, 0, 172);
        ASK.ends("17 highest first", 0, 0, 258, 17, 1, 2, 172);
        ASK.ends("21 0", HIGH, 5, HIGH, 21, 0, 172);
        ASK.ends("21 1", HIGH, 5, 5, 21, 1, 172);
        ASK.ends("21 2", HIGH, 5, 0, 21, 2, 172);
        ASK.ends("54", 7, 5, 7, 21, 0, 54, 2, 21, 2, 172);
        ASK.ends("54 takes the top", 7, 5, 7, 21, 0, 21, 1, 54, 2, 172);
        ASK.ends("87", 7, 5, 7, 21, 0, 21, 1, 87, 172);
        ASK.ends("89", 7, 5, 49, 21, 0, 89, 104, 172);
        ASK.ends("116", 7, 5, -7, 21, 0, 116, 172);
        ASK.ends("116 of the lowest", LOW, 5, LOW, 21, 0, 116, 172);
        ASK.ends("0", 7, 5, 7, 0, 21, 0, 0, 172);
        ASK.ends("172 with more below", 7, 5, 5, 21, 0, 21, 1, 172);
    }

    private static void two(int kind, int x, int y, int answer) {
        ASK.ends(x + " " + kind + " " + y, x, y, answer, 21, 0, 21, 1, kind, 172);
    }

    private static void ofTwo() {
        two(96, 7, 5, 12);
        two(96, HIGH, 1, LOW);
        two(100, 7, 5, 2);
        two(100, LOW, 1, HIGH);
        two(104, 7, -5, -35);
        two(104, 1 << 16, 1 << 16, 0);
        two(108, 7, 5, 1);
        two(108, -7, 5, -1);
        two(108, LOW, -1, LOW);
        two(112, 7, 5, 2);
        two(112, -7, 5, -2);
        two(112, LOW, -1, 0);
        two(126, 12, 10, 8);
        two(128, 12, 10, 14);
        two(130, 12, 10, 6);
        for (int kind : new int[] {108, 112}) {
            StepRewriter x = Files.rewritten(Files.alone(21, 0, 21, 1, kind, 172));
            ASK.run("by 0", x, Ask.told(0, 7, 0, 100), THROWN, 1, 4, 3);
        }
    }

    private static void branches() {
        boolean[][] taken = {{false, true, false}, {true, false, true}, {true, false, false},
            {false, true, true}, {false, false, true}, {true, true, false}};
        for (int kind = 153; kind <= 158; kind++) {
            StepRewriter x = Files.rewritten(Files.alone(21, 0, kind, 5, 16, 1, 172, 16, 2, 172));
            for (int sign = -1; sign <= 1; sign++) {
                for (int size : new int[] {1, HIGH}) {
                    int want = taken[kind - 153][sign + 1] ? 2 : 1;
                    ASK.run(kind + " of " + sign * size, x, Ask.told(0, sign * size, 0, 4), ENDED, want, 4, 4);
                }
            }
        }
        ASK.ends("167", 3, 0, 3, 167, 4, 16, 9, 21, 0, 172);
        ASK.ends("168", 3, 0, 3, 168, 0, 5, 16, 9, 21, 0, 172);
        ASK.ends("x and all below it", 10, 0, 55, 21, 0, 158, 18, 21, 0, 21, 2, 96, 54, 2, 21, 0, 16, 255, 96, 54, 0,
            167, 256 - 18, 21, 2, 172);
    }

    private static void longBranch() {
        int[] middle = Files.join(Files.code(16, 7, 172), Files.times(20, 172));
        int[] code = Files.join(Files.code(21, 0, 153, 25), middle, Files.code(16, 9, 172));
        StepRewriter x = Files.rewritten(Files.alone(code));
        DUE.is("it is long", x.told(0, true, 3), 1);
        ASK.run("long, taken", x, Ask.told(0, 0, 0, 100), ENDED, 9, 4, 5);
        ASK.run("long, not taken", x, Ask.told(0, 3, 0, 100), ENDED, 7, 4, 4);
    }

    private static void parameters() {
        int[] none = Files.method(0, 2, Files.code(21, 0, 21, 1, 96, 172));
        int[] one = Files.method(1, 2, Files.code(21, 0, 21, 1, 96, 172));
        int[] four = Files.method(4, 4, Files.code(21, 0, 21, 1, 96, 21, 2, 96, 21, 3, 96, 172));
        StepRewriter x = Files.rewritten(Files.file(none, one, four));
        ASK.run("no PARAMETERS", x, Ask.told(0, 3, 40, 10), ENDED, 0, 4, 4);
        ASK.run("one PARAMETER", x, Ask.told(1, 3, 40, 10), ENDED, 3, 4, 4);
        ASK.run("four PARAMETERS", x, Ask.told(2, 3, 40, 10), ENDED, 43, 8, 8);
    }

    private static void calls() {
        // METHOD 1: ((a * 10 + b) * 10 + c) * 10 + d; METHOD 0 has 9 below what it hands over
        int[] digits = Files.method(4, 5, Files.code(21, 0, 16, 10, 104, 21, 1, 96, 16, 10, 104, 21, 2, 96,
            16, 10, 104, 21, 3, 96, 21, 4, 96, 16, 1, 54, 4, 172));
        int[] first = Files.method(0, 0, Files.code(16, 9, 16, 1, 16, 2, 16, 3, 16, 4, 184, 1, 100, 172));
        StepRewriter x = Files.rewritten(Files.file(first, digits));
        ASK.run("called", x, Ask.told(0, 0, 0, 100), ENDED, 9 - 1234, 12 + 18, 8 + 18);
        // called twice: LOCALS are 0 each time
        int[] twice = Files.method(0, 0, Files.code(16, 0, 89, 89, 89, 184, 1, 87, 16, 0, 89, 89, 89, 184, 1, 172));
        x = Files.rewritten(Files.file(twice, digits));
        DUE.is("called twice", x.run(0, 0, 0, 1000), ENDED);
        DUE.is("with new LOCALS", x.answer(), 0);
    }

    /** Calls itself with one less until it has 0: 0: 21 0, 2: 153 to 12, 4: .. 184 0, 11: 172, 12: 16 7, 14: 172. */
    private static final int[] DOWN = Files.file(Files.method(1, 1,
        Files.code(21, 0, 153, 10, 21, 0, 16, 255, 96, 184, 0, 172, 16, 7, 172)));

    private static void underWay() {
        StepRewriter x = Files.rewritten(DOWN);
        ASK.run("60 under way", x, Ask.told(0, 59, 0, 1000), ENDED, 7, 59 * 11 + 4, 59 * 7 + 4);
        ASK.run("one more", x, Ask.told(0, 60, 0, 1000), STOPPED, 0, 60 * 11, 60 * 6);
        ASK.run("again", x, Ask.told(0, 1, 0, 1000), ENDED, 7, 15, 11);
        int[] caught = Files.file(Files.method(0, 0, Files.code(184, 0, 172, 172), Files.handler(0, 3, 3, 0)));
        x = Files.rewritten(caught);
        ASK.run("past all HANDLERS", x, Ask.told(0, 0, 0, 100000), STOPPED, 0, 360, 60);
    }

    private static void makings() {
        // x is made as ARRAY 2: 21 0, 188 2, 190 2, 172
        StepRewriter x = Files.rewritten(Files.alone(21, 0, 188, 2, 190, 2, 172));
        ASK.run("made", x, Ask.told(0, 1000, 0, 1004), ENDED, 1000, 1004, 4);
        DUE.is("how many", x.element(2, -1), 1000);
        DUE.is("the last", x.element(2, 999), 0);
        DUE.is("none behind", x.element(2, 1000), NONE);
        ASK.run("not PAID", x, Ask.told(0, 1000, 0, 1003), STOPPED, 0, 4, 1);
        DUE.is("not made", x.element(2, -1), 0);
        ASK.run("too many", x, Ask.told(0, 1001, 0, 1005), THROWN, 4, 1005, 2);
        ASK.run("too many, and not PAID", x, Ask.told(0, 1001, 0, 1004), STOPPED, 0, 4, 1);
        ASK.run("the highest", x, Ask.told(0, HIGH, 0, 100000), STOPPED, 0, 4, 1);
        ASK.run("below 0", x, Ask.told(0, -1, 0, 4), THROWN, 3, 4, 2);
        ASK.run("the lowest", x, Ask.told(0, LOW, 0, 4), THROWN, 3, 4, 2);
        ASK.run("none", x, Ask.told(0, 0, 0, 4), ENDED, 0, 4, 4);
        // made, filled, then made anew with 0s
        ASK.ends("0s again", 0, 0, 0, 16, 3, 188, 0, 16, 1, 16, 9, 79, 0, 16, 2, 188, 0, 16, 1, 46, 0, 172);
        ASK.ends("empty at first", 0, 0, 0, 190, 3, 172);
    }

    private static void elements() {
        // ARRAY 1 of 3: [x] = y, and then its element 2
        StepRewriter x = Files.rewritten(Files.alone(16, 3, 188, 1, 21, 0, 21, 1, 79, 1, 16, 2, 46, 1, 172));
        ASK.run("kept", x, Ask.told(0, 2, -77, 100), ENDED, -77, 11, 8);
        DUE.is("element 2", x.element(1, 2), -77);
        DUE.is("element 1", x.element(1, 1), 0);
        DUE.is("element 3", x.element(1, 3), NONE);
        DUE.is("element -2", x.element(1, -2), NONE);
        DUE.is("of another ARRAY", x.element(0, 2), NONE);
        DUE.is("how many of another", x.element(0, -1), 0);
        ASK.run("elsewhere", x, Ask.told(0, 0, LOW, 100), ENDED, 0, 11, 8);
        DUE.is("element 0", x.element(1, 0), LOW);
        DUE.is("element 2 is of this run", x.element(1, 2), 0);
        ASK.run("above", x, Ask.told(0, 3, 1, 100), THROWN, 2, 11, 5);
        DUE.is("behind what was thrown", x.element(1, -1), 3);
        ASK.run("below", x, Ask.told(0, -1, 1, 100), THROWN, 2, 11, 5);
        for (int a : new int[] {-1, 4, LOW, HIGH}) {
            DUE.is("ARRAY " + a, x.element(a, 0), BAD);
            DUE.is("how many of ARRAY " + a, x.element(a, -1), BAD);
        }
        for (int i : new int[] {LOW, HIGH, 1000, 4000}) {
            DUE.is("element " + i, x.element(1, i), NONE);
        }
        x = Files.rewritten(Files.alone(21, 0, 46, 0, 172));
        ASK.run("of none", x, Ask.told(0, 0, 0, 100), THROWN, 2, 3, 2);
        // ARRAYS are for all METHODS of a run
        int[] maker = Files.method(0, 0, Files.code(16, 4, 188, 3, 16, 0, 172));
        int[] first = Files.method(0, 0, Files.code(184, 1, 87, 190, 3, 172));
        x = Files.rewritten(Files.file(first, maker));
        ASK.run("made by another", x, Ask.told(0, 0, 0, 100), ENDED, 4, 8 + 4 + 4, 8);
    }

    private static void thrown() {
        StepRewriter x = Files.rewritten(Files.alone(0, 191));
        ASK.run("191", x, Ask.told(0, 0, 0, 100), THROWN, 4, 2, 2);
        // 0: 16 1, 2: 16 2, 4: 191, 5: 172 (AT, has the KIND alone)
        int[] code = {16, 1, 16, 2, 191, 172};
        x = Files.rewritten(Files.file(Files.method(0, 0, code, Files.handler(0, 5, 5, 4))));
        ASK.run("caught", x, Ask.told(0, 0, 0, 100), ENDED, 4, 3 + 1, 4);
        ASK.run("caught, but AT is not PAID", x, Ask.told(0, 0, 0, 3), STOPPED, 0, 3, 3);
        x = Files.rewritten(Files.file(Files.method(0, 0, code, Files.handler(0, 5, 5, 3))));
        ASK.run("of another KIND", x, Ask.told(0, 0, 0, 100), THROWN, 4, 3, 3);
        x = Files.rewritten(Files.file(Files.method(0, 0, code, Files.handler(0, 5, 5, 0))));
        ASK.run("of all KINDS", x, Ask.told(0, 0, 0, 100), ENDED, 4, 4, 4);
        // first HANDLER that has it: 0: 191, 1: 172, 2: 87, 3: 16 8, 5: 172
        int[] two = {191, 172, 87, 16, 8, 172};
        int[] one = Files.handler(0, 1, 1, 0);
        int[] other = Files.handler(0, 1, 2, 4);
        x = Files.rewritten(Files.file(Files.method(0, 0, two, one, other)));
        ASK.run("the first", x, Ask.told(0, 0, 0, 100), ENDED, 4, 2, 2);
        x = Files.rewritten(Files.file(Files.method(0, 0, two, other, one)));
        ASK.run("the first, too", x, Ask.told(0, 0, 0, 100), ENDED, 8, 4, 4);
        x = Files.rewritten(Files.file(Files.method(0, 0, two, Files.handler(0, 1, 1, 1), other)));
        ASK.run("the first that has the KIND", x, Ask.told(0, 0, 0, 100), ENDED, 8, 4, 4);
        // a HANDLER may have its own AT in it: thrown again and again
        int[] again = Files.method(0, 0, Files.code(0, 191, 87, 191), Files.handler(0, 4, 2, 4));
        x = Files.rewritten(Files.file(again));
        ASK.run("again and again", x, Ask.told(0, 0, 0, 21), STOPPED, 0, 20, 20);
    }

    private static void thrownThroughCalls() {
        int[] thrower = Files.method(1, 1, Files.code(16, 1, 21, 0, 108, 172), Files.handler(0, 5, 5, 2));
        int[] middle = Files.method(1, 1, Files.code(21, 0, 184, 2, 172, 172), Files.handler(4, 6, 5, 0));
        int[] first = Files.method(1, 1, Files.code(16, 9, 21, 0, 184, 1, 96, 172, 172), Files.handler(4, 6, 8, 1));
        StepRewriter x = Files.rewritten(Files.file(first, middle, thrower));
        ASK.run("not thrown", x, Ask.told(0, 1, 0, 100), ENDED, 10, 9 + 7 + 3 + 1, 5 + 3 + 4);
        ASK.run("thrown in the caller's caller", x, Ask.told(0, 0, 0, 100), ENDED, 1, 9 + 7 + 3 + 1, 3 + 2 + 3 + 1);
        ASK.run("thrown in the first", x, Ask.told(1, 0, 0, 100), THROWN, 1, 7 + 3, 2 + 3);
    }

    private static void handlerBounds() {
        // 0: 21 0, 2: 188 0, 4: 21 1, 6: 188 1, 8: 16 50, 10: 172, 11: 172
        int[] code = {21, 0, 188, 0, 21, 1, 188, 1, 16, 50, 172, 172};
        StepRewriter x = Files.rewritten(Files.file(Files.method(2, 2, code, Files.handler(2, 6, 11, 3))));
        ASK.run("none thrown", x, Ask.told(0, 0, 0, 100), ENDED, 50, 6, 6);
        ASK.run("thrown at FROM", x, Ask.told(0, -1, 0, 100), ENDED, 3, 7, 3);
        ASK.run("thrown at TO", x, Ask.told(0, 0, -1, 100), THROWN, 3, 6, 4);
        // 0: 16 1, 2: 21 0, 4: 108, 5: 172, 6: 172; the 108 stands just where TO is
        int[] divides = {16, 1, 21, 0, 108, 172, 172};
        x = Files.rewritten(Files.file(Files.method(1, 1, divides, Files.handler(0, 4, 6, 1))));
        ASK.run("thrown at TO without payment", x, Ask.told(0, 0, 0, 100), THROWN, 1, 4, 3);
        x = Files.rewritten(Files.file(Files.method(1, 1, divides, Files.handler(4, 5, 6, 1))));
        ASK.run("thrown at FROM without payment", x, Ask.told(0, 0, 0, 100), ENDED, 1, 5, 4);
        int[] full = Files.join(Files.times(20, 16, 9), Files.code(191, 172));
        x = Files.rewritten(Files.file(Files.method(0, 0, full, Files.handler(0, 41, 41, 0))));
        ASK.run("thrown with twenty on the stack", x, Ask.told(0, 0, 0, 100), ENDED, 4, 22, 22);
    }

    private static void limits() {
        int[] five = Files.alone(16, 5, 172);
        StepRewriter x = Files.rewritten(five);
        ASK.run("enough", x, Ask.told(0, 0, 0, 2), ENDED, 5, 2, 2);
        ASK.run("one too few", x, Ask.told(0, 0, 0, 1), STOPPED, 0, 0, 0);
        ASK.run("none", x, Ask.told(0, 0, 0, 0), STOPPED, 0, 0, 0);
        ASK.run("the greatest", x, Ask.told(0, 0, 0, 100000), ENDED, 5, 2, 2);
        x.price(16, 0);
        x.price(172, 0);
        x.rewrite();
        ASK.run("nothing to pay", x, Ask.told(0, 0, 0, 0), ENDED, 5, 0, 2);
        // a call that is STOPPED stops all: METHOD 0 has a HANDLER for everything
        int[] first = Files.method(0, 0, Files.code(184, 1, 172, 172), Files.handler(0, 3, 3, 0));
        int[] second = Files.method(0, 0, Files.code(16, 5, 172));
        x = Files.rewritten(Files.file(first, second));
        ASK.run("the called one is not PAID", x, Ask.told(0, 0, 0, 7), STOPPED, 0, 6, 1);
        ASK.run("the called one is PAID", x, Ask.told(0, 0, 0, 8), ENDED, 5, 8, 4);
    }

    private static void stepsLimit() {
        // n turns of seven steps, then 21, 153, 16, 172: 0: 21 0, 2: 153 to 13, 4 .. 9, 11: 167 to 0
        int[] loop = {21, 0, 153, 11, 21, 0, 16, 255, 96, 54, 0, 167, 256 - 11, 16, 5, 172};
        StepRewriter x = Files.rewritten(Files.alone(loop));
        ASK.run("2499 turns", x, Ask.told(0, 2499, 0, 100000), ENDED, 5, 2499 * 7 + 4, 2499 * 7 + 4);
        ASK.run("2856 turns", x, Ask.told(0, 2856, 0, 100000), ENDED, 5, 2856 * 7 + 4, 19996);
        ASK.run("2857 turns", x, Ask.told(0, 2857, 0, 100000), STOPPED, 0, 2857 * 7 + 2, 20000);
        // 20000 done and the end with the last of them: 19996 by the loop, and four times nothing
        int[] longer = {21, 0, 153, 11, 21, 0, 16, 255, 96, 54, 0, 167, 256 - 11, 0, 0, 0, 0, 16, 5, 172};
        x = Files.rewritten(Files.alone(longer));
        ASK.run("just 20000", x, Ask.told(0, 2856, 0, 100000), ENDED, 5, 20000, 20000);
        longer = Files.join(Files.first(longer, 17), Files.code(0, 16, 5, 172));
        x = Files.rewritten(Files.alone(longer));
        ASK.run("just 20001", x, Ask.told(0, 2856, 0, 100000), STOPPED, 0, 20001, 20000);
        // 202 and 203 are no steps: they are done (and PAID) ahead of the step that is one too many
        x = Files.rewritten(Files.alone(167, 0));
        ASK.run("for ever", x, Ask.told(0, 0, 0, 100000), STOPPED, 0, 20001, 20000);
        x.price(167, 0);
        x.rewrite();
        ASK.run("for ever and for nothing", x, Ask.told(0, 0, 0, 0), STOPPED, 0, 0, 20000);
    }

    private static void refused() {
        StepRewriter x = Files.loaded(Files.alone(16, 5, 172));
        DUE.is("not REWRITTEN", x.run(0, 0, 0, 10), STATE);
        DUE.is("not REWRITTEN, and no such m", x.run(9, 0, 0, -1), STATE);
        x.rewrite();
        ASK.run("run", x, Ask.told(0, 0, 0, 10), ENDED, 5, 2, 2);
        for (int m : new int[] {-1, 1, 8, LOW, HIGH}) {
            DUE.is("METHOD " + m, x.run(m, 0, 0, 10), BAD);
        }
        for (int limit : new int[] {-1, 100001, LOW, HIGH}) {
            DUE.is("LIMIT " + limit, x.run(0, 0, 0, limit), BAD);
        }
        DUE.is("the latest is still the one that was run", x.answer(), 5);
        DUE.is("and its sum", x.counted(), 2);
        DUE.is("and its steps", x.steps(), 2);
    }
}
