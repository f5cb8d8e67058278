/**
 * "Then METHOD by METHOD its stack" (promise 3), and the greatest depth (promise 6): each sentence at the
 * boundary and one beyond it on either side. A METHOD's CODE begins at place 5 of its FILE.
 */
public final class StackEdgeTest {
    /** Kinds with what they take and what they give; the 184 calls a METHOD of its own, see call(). */
    private static final int[][] ALL = {{0, 0, 0}, {16, 0, 1}, {17, 0, 1}, {21, 0, 1}, {54, 1, 0}, {87, 1, 0},
        {89, 1, 2}, {96, 2, 1}, {100, 2, 1}, {104, 2, 1}, {108, 2, 1}, {112, 2, 1}, {126, 2, 1}, {128, 2, 1},
        {130, 2, 1}, {116, 1, 1}, {153, 1, 0}, {154, 1, 0}, {155, 1, 0}, {156, 1, 0}, {157, 1, 0}, {158, 1, 0},
        {188, 1, 0}, {190, 0, 1}, {46, 1, 1}, {79, 2, 0}};
    private static final Due DUE = new Due("StackEdgeTest");

    public static void main(String[] args) {
        takesMore();
        endsAndThrows();
        calls();
        moreThanTwenty();
        pastTheEnd();
        jumpsGoOn();
        anotherDepth();
        anotherDepthBack();
        eachAt();
        atZero();
        leastPlace();
        notComeTo();
        greatest();
        DUE.end();
    }

    /** The place in CODE at which METHOD 0 is not right, or -1: it is RIGHT. */
    private static void load(String what, int place, int[]... methods) {
        StepRewriter x = new StepRewriter();
        int want = place < 0 ? methods.length : -10 - 5 - place;
        DUE.is(what, Files.load(x, Files.file(methods)), want);
    }

    private static int[] method(int... code) {
        return Files.method(1, 1, code);
    }

    /** The instruction of a kind; a branch leads to what stands behind it. */
    private static int[] one(int kind) {
        boolean branch = kind >= 153 && kind <= 158;
        boolean alone = kind == 0 || kind == 87 || kind == 89 || kind == 116 || kind == 172 || kind == 191
            || kind >= 96 && kind <= 130;
        return kind == 17 ? Files.code(17, 0, 0) : alone ? Files.code(kind) : Files.code(kind, branch ? 2 : 0);
    }

    /** So many 16s, and the instruction, and the end by 191, which takes none. */
    private static int[] at(int depth, int... instruction) {
        return method(Files.join(Files.times(depth, 16, 0), instruction, Files.code(191)));
    }

    private static void takesMore() {
        DUE.sentence("it is not right if it takes more than there are");
        for (int[] kind : ALL) {
            for (int depth = Math.max(0, kind[1] - 2); depth <= kind[1] + 1; depth++) {
                int wrong = depth < kind[1] ? 2 * depth : -1;
                load(kind[0] + " with " + depth, wrong, at(depth, one(kind[0])));
            }
        }
    }

    private static void endsAndThrows() {
        DUE.sentence("it is not right if it takes more than there are", "172 and 191");
        load("172 with none", 0, method(172));
        load("172 with one", -1, method(16, 0, 172));
        load("172 with two", -1, method(16, 0, 16, 0, 172));
        load("191 with none", -1, method(191));
        load("191 with one", -1, method(16, 0, 191));
    }

    private static int[] called(int parameters) {
        return Files.method(parameters, parameters, Files.code(191));
    }

    private static void calls() {
        DUE.sentence("(A 184 takes the PARAMETERS and has one more;");
        for (int p = 0; p <= 4; p++) {
            for (int depth = 0; depth <= 6; depth++) {
                int wrong = depth < p ? 2 * depth : -1;
                load("184 of " + p + " with " + depth, wrong, at(depth, 184, 1), called(p));
                // it has depth - p + 1 behind it: as many 87s are right, and one more is not
                int left = depth - p + 1;
                if (wrong < 0) {
                    int[] drops = Files.join(Files.code(184, 1), Files.times(left, 87));
                    load("so many left", -1, at(depth, drops), called(p));
                    int[] more = Files.join(drops, Files.code(87));
                    load("one more", 2 * depth + 2 + left, at(depth, more), called(p));
                }
            }
            for (int depth = 18; depth <= 20; depth++) {
                int wrong = depth - p + 1 > 20 ? 2 * depth : -1;
                load("184 of " + p + " with " + depth, wrong, at(depth, 184, 1), called(p));
            }
        }
    }

    private static void moreThanTwenty() {
        DUE.sentence("would have more than 20 behind it");
        for (int[] kind : ALL) {
            for (int depth = 18; depth <= 20; depth++) {
                int behind = depth - kind[1] + kind[2];
                load(kind[0] + " with " + depth, behind > 20 ? 2 * depth : -1, at(depth, one(kind[0])));
            }
        }
        load("twenty, and the end", -1, method(Files.join(Files.times(20, 16, 0), Files.code(172))));
        load("twenty-one", 40, method(Files.join(Files.times(21, 16, 0), Files.code(172))));
    }

    private static void pastTheEnd() {
        DUE.sentence("or goes on past the end");
        for (int[] kind : ALL) {
            boolean branch = kind[0] >= 153 && kind[0] <= 158;
            // a branch leads back to 2, which has the 1 that it leaves
            int[] last = branch ? Files.code(kind[0], 254) : one(kind[0]);
            int[] code = Files.join(Files.times(2, 16, 0), last);
            load(kind[0] + " is the last", 4, method(code));
            load(kind[0] + " is the last but one", -1, method(Files.join(code, Files.code(191))));
        }
        load("184 is the last", 0, method(184, 1), called(0));
        load("184 is the last but one", -1, method(184, 1, 191), called(0));
        load("191 is the last", -1, method(191));
        load("172 is the last", -1, method(16, 0, 172));
        load("167 is the last", -1, method(167, 0));
        load("168 is the last", -1, method(168, 0, 0));
        load("one doesn't come to the last", -1, method(191, 0));
    }

    private static void jumpsGoOn() {
        DUE.sentence("a jump goes on to both ways, 167, 168 to one, 172, 191 to none.)");
        for (int kind = 153; kind <= 158; kind++) {
            // 0: 16 0, 2: to 5, 4: 191, 5: 191; then one of the two takes one
            load(kind + " goes on", -1, method(16, 0, kind, 3, 191, 191));
            load(kind + " goes on behind it", 4, method(16, 0, kind, 3, 172, 191));
            load(kind + " goes on there", 5, method(16, 0, kind, 3, 191, 172));
        }
        load("167 goes on there", 3, method(167, 3, 191, 172));
        load("167 doesn't go on behind it", -1, method(167, 3, 172, 191));
        load("168 goes on there", 4, method(168, 0, 4, 191, 172));
        load("168 doesn't go on behind it", -1, method(168, 0, 4, 172, 191));
        load("172 goes on to none", -1, method(16, 0, 172, 172));
        load("191 goes on to none", -1, method(191, 172));
    }

    private static void anotherDepth() {
        DUE.sentence("a place to which it goes on has that depth, or, if it has another one, is not right");
        for (int pushed = 0; pushed <= 2; pushed++) {
            // by the branch 1, and by going on 0, 1 or 2 have come to the last 191
            int[] way = Files.join(Files.code(87), Files.times(pushed, 16, 0));
            for (int kind = 153; kind <= 158; kind++) {
                int[] code = Files.join(Files.code(16, 0, 16, 0, kind, 2 + way.length), way, Files.code(191));
                int place = 6 + way.length;
                load(pushed + " behind " + kind, pushed == 1 ? -1 : place, method(code));
            }
        }
        // 0: 16 0, 2: 16 0, 4: 153 to 10, 6: 16 0 (or 0 0), 8: 167 to 10, 10: 191
        load("167 with another one", 10, method(16, 0, 16, 0, 153, 6, 16, 0, 167, 2, 191));
        load("167 with that one", -1, method(16, 0, 16, 0, 153, 6, 0, 0, 167, 2, 191));
        load("168 with another one", 11, method(16, 0, 16, 0, 153, 7, 16, 0, 168, 0, 3, 191));
        load("168 with that one", -1, method(16, 0, 16, 0, 153, 7, 0, 0, 168, 0, 3, 191));
        // 0: 16 0, 2: 153 to 8, 4: 184 1, 6: 0, 7: 0, 8: 191, which has 0 by the branch and 1 behind the 184
        load("184 with one more", 8, method(16, 0, 153, 6, 184, 1, 0, 0, 191), called(0));
    }

    private static void anotherDepthBack() {
        DUE.sentence("a place to which it goes on has that depth, or, if it has another one, is not right",
            "that was gone on from before");
        int[] back = {167, 168};
        for (int kind : back) {
            for (int pushed = 0; pushed <= 2; pushed++) {
                // 0: 16 0, 2: 87, 3: 0 1 or 2 16s, then back to 2, which has 1
                int[] code = Files.join(Files.code(16, 0, 87), Files.times(pushed, 16, 0));
                int way = 2 - code.length;
                int[] jump = kind == 167 ? Files.code(167, way) : Files.code(168, way >> 8, way);
                load(kind + " back with " + pushed, pushed == 1 ? -1 : 2, method(Files.join(code, jump)));
            }
        }
        for (int kind = 153; kind <= 158; kind++) {
            for (int pushed = 1; pushed <= 3; pushed++) {
                int[] code = Files.join(Files.code(16, 0, 87), Files.times(pushed, 16, 0));
                int[] jump = Files.code(kind, 2 - code.length, 191);
                load(kind + " back with " + (pushed - 1), pushed == 2 ? -1 : 2, method(Files.join(code, jump)));
            }
        }
        load("to itself with that one", -1, method(16, 0, 167, 0));
        load("to itself with one less", 2, method(16, 0, 153, 0, 191));
    }

    private static int[] handled(int at, int... code) {
        return Files.method(0, 0, code, Files.handler(0, 1, at, 0));
    }

    private static void eachAt() {
        DUE.sentence("each AT the depth 1");
        load("AT takes none", -1, handled(1, 191, 191));
        load("AT takes one", -1, handled(1, 191, 172));
        load("AT takes two", 1, handled(1, 191, 96, 172));
        int[] full = Files.join(Files.code(191), Files.times(19, 89), Files.code(172));
        load("twenty behind AT", -1, handled(1, full));
        full = Files.join(Files.code(191), Files.times(20, 89), Files.code(172));
        load("twenty-one behind AT", 20, handled(1, full));
        for (int pushed = 0; pushed <= 2; pushed++) {
            int[] code = Files.join(Files.code(0), Files.times(pushed, 16, 0), Files.code(191));
            int at = 1 + 2 * pushed;
            load("AT is gone on to with " + pushed, pushed == 1 ? -1 : at, handled(at, code));
        }
        int[] two = Files.method(0, 0, Files.code(191, 191, 96, 172),
            Files.handler(0, 1, 1, 0), Files.handler(0, 1, 2, 0));
        load("the second AT", 2, two);
        int[] same = Files.method(0, 0, Files.code(191, 172),
            Files.handler(0, 1, 1, 0), Files.handler(0, 1, 1, 4));
        load("the same AT twice", -1, same);
    }

    private static void atZero() {
        DUE.sentence("(AT 0: place 0 is not right)");
        load("AT 0", 0, handled(0, 191));
        load("AT 1", -1, handled(1, 191, 191));
        load("AT 0 of the last HANDLER", 0, Files.method(0, 0, Files.code(191, 87, 191),
            Files.handler(0, 1, 1, 0), Files.handler(0, 1, 0, 0)));
        load("AT 0 is before what goes wrong behind it", 0, handled(0, 0, 87, 191));
        StepRewriter x = new StepRewriter();
        int[] file = Files.file(Files.method(0, 0, Files.code(191)), handled(0, 191));
        DUE.is("AT 0 of METHOD 1", Files.load(x, file), -10 - 11);
        file = Files.file(Files.method(0, 0, Files.code(87)), handled(0, 191));
        DUE.is("AT 0 of METHOD 1 is behind the stack of METHOD 0", Files.load(x, file), -10 - 5);
    }

    private static void leastPlace() {
        DUE.sentence("again and again the least place that has a depth and was not gone on from is gone on from");
        // 0: 167 to 3, 2: 87, 3: 16 0, 5: 153 to 2, 7: 172; 2 and 7 both take one of none
        load("2 is below 7", 2, method(167, 3, 87, 16, 0, 153, 253, 172));
        // 0: 16 0, 2: 153 to 6, 4: 87, 5: 191, 6: 87; 4 and 6 both take one of none
        load("4 is below 6", 4, method(16, 0, 153, 4, 87, 191, 87, 191));
        load("then 6", 6, method(16, 0, 153, 4, 0, 191, 87, 191));
        // 0: 167 to 5, 2: 87, 3: 0, 4: 172, 5: 16 0, 7: 153 to 3, 9: 87; 3 goes on to 4 before 9 is looked at
        load("it goes on from there first", 4, method(167, 5, 87, 0, 172, 16, 0, 153, 252, 87, 191));
        load("and then at the other one", 9, method(167, 5, 87, 0, 191, 16, 0, 153, 252, 87, 191));
        // AT 5 has a depth from the first, but is gone on from only behind 0 and 1
        load("AT waits", 1, handled(5, 0, 87, 191, 191, 191, 96, 191));
        load("AT is gone on from", 5, handled(5, 0, 0, 191, 191, 191, 96, 191));
    }

    private static void notComeTo() {
        DUE.sentence("the least place that has a depth", "one that has none is right");
        load("too few", -1, method(191, 87, 96, 172));
        load("too many", -1, method(Files.join(Files.code(191), Files.times(21, 16, 0))));
        load("another depth", -1, method(16, 0, 191, 16, 0, 167, 251));
        load("past the end", -1, method(191, 16, 0));
    }

    private static void greatest(String what, int want, int[]... methods) {
        StepRewriter x = Files.loaded(Files.file(methods));
        DUE.is(what, x.told(0, false, 5), want);
        x.rewrite();
        DUE.is(what + " as REWRITTEN", x.told(0, true, 5), StepRewriter.NONE);
    }

    private static void greatest() {
        DUE.sentence("5 the greatest depth that a place has (NONE: as REWRITTEN)");
        greatest("none", 0, method(191));
        greatest("one", 1, method(16, 0, 172));
        greatest("two, and then less", 2, method(16, 0, 16, 0, 87, 172));
        for (int depth = 18; depth <= 20; depth++) {
            greatest("so many at the last", depth, at(depth));
        }
        greatest("not where one doesn't come to", 0, method(191, 16, 0, 16, 0, 191));
        greatest("of AT alone", 1, handled(1, 191, 191));
        greatest("behind a jump", 2, method(16, 0, 16, 0, 167, 2, 172));
        greatest("where it leads back", 1, method(167, 4, 172, 0, 16, 0, 167, 252));
        greatest("of each METHOD alone", 1, method(16, 0, 172), at(5));
        StepRewriter x = Files.rewritten(Files.file(at(7), at(5)));
        x.unwrite();
        DUE.is("METHOD 0 as unwritten", x.told(0, false, 5), 7);
        DUE.is("METHOD 1 as unwritten", x.told(1, false, 5), 5);
    }
}
