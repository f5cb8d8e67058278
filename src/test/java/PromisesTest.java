import java.util.Random;

/**
 * The sentences of the promises that name no boundary and no refusal, in the document's order: what each
 * call answers and changes when all is right. (The others are in RefusedTest and the EdgeTests.)
 */
public final class PromisesTest {
    private static final int NONE = StepRewriter.NONE, STATE = StepRewriter.STATE;
    private static final int ENDED = Ask.ENDED, STOPPED = Ask.STOPPED, THROWN = Ask.THROWN;
    private static final Due DUE = new Due("PromisesTest");
    private static final Ask ASK = new Ask(DUE);

    public static void main(String[] args) {
        feedTellsHowMany();
        loadTellsHowMany();
        fewerMethods();
        priceCountsFromRewrite();
        rewriteTellsBytes();
        toldOfEach();
        toldNoneSuch();
        bytesOfEach();
        handlersOfEach();
        blocksOfEach();
        runsAsRewritten();
        runTellsHow();
        countedOfTheLatest();
        stepsOfTheLatest();
        elementsOfTheLatest();
        unwriteTellsBytes();
        unwriteIsAsLoaded();
        unwrittenByChance();
        DUE.end();
    }

    /**
     * Two METHODS. METHOD 0: 0: 21 0, 2: 153 to 129, 4: 167 to 129, 6: nothing, 123: 168 to 0, 126: 16 3,
     * 128: 172, 129: 16 4, 131: 172, 132: 172 (AT). METHOD 1: 16 2, 188 3, 191, 172 (AT).
     */
    private static int[] file() {
        int[] code = Files.join(Files.code(21, 0, 153, 127, 167, 125), Files.times(117, 0),
            Files.code(168, 255, 256 - 123, 16, 3, 172, 16, 4, 172, 172));
        int[] first = Files.method(1, 1, code, Files.handler(0, 2, 132, 1), Files.handler(126, 133, 132, 0));
        int[] second = Files.method(0, 2, Files.code(16, 2, 188, 3, 191, 172), Files.handler(2, 5, 5, 4));
        return Files.file(first, second);
    }

    private static void feedTellsHowMany() {
        DUE.sentence("The n lowest bytes of w, the highest of them first, come behind the tape: how many it has");
        StepRewriter x = new StepRewriter();
        int[] parts = {3, 1, 8, 2, 5, 4, 7, 6};
        int has = 0;
        for (int n : parts) {
            has += n;
            DUE.is(n + " more", x.feed(0, n), has);
        }
        x.load();
        DUE.is("1 2", x.feed(0x0102, 2), 2);
        DUE.is("the METHODS' number is the first of them", x.load(), -12);
        // 2 of 8 bytes, and the last 3 of them
        x.feed(0xFFFFFFFFFFFF0100L, 2);
        x.feed(0x0000000000000000L, 2);
        x.feed(0xFFFFFFFFFF0310FBL, 3);
        DUE.is("with those before", x.feed(0xFFFFFFFFFFFFAC00L, 2), 9);
        DUE.is("load", x.load(), 1);
        ASK.bytes("its CODE", x, 0, false, 16, 251, 172);
    }

    private static void loadTellsHowMany() {
        DUE.sentence("is a FILE (and nothing is REWRITTEN): how many METHODS");
        StepRewriter x = Files.rewritten(file());
        DUE.is("told before", x.told(0, true, 2), 2);
        int[] five = Files.method(0, 0, Files.code(16, 5, 172));
        DUE.is("three METHODS", Files.load(x, Files.file(five, five, five)), 3);
        DUE.is("nothing is REWRITTEN", x.told(0, true, 2), STATE);
        for (int m = 0; m < 3; m++) {
            ASK.bytes("METHOD " + m, x, m, false, 16, 5, 172);
            DUE.is("its BLOCKS", x.told(m, false, 1), 1);
            DUE.is("its HANDLERS", x.told(m, false, 2), 0);
            DUE.is("its 168s", x.told(m, false, 4), 0);
        }
    }

    private static void fewerMethods() {
        DUE.sentence("is a FILE (and nothing is REWRITTEN): how many METHODS", "fewer than before");
        int[] big = Files.method(0, 0, Files.times(600, 16, 1, 172));
        int[] small = Files.method(0, 0, Files.code(16, 5, 172));
        int[] other = Files.method(0, 0, Files.join(Files.code(168, 1, 47), Files.times(300, 87), Files.code(191)));
        // its last bytes lie where METHODS 1 and 2 were, and would not be right as theirs
        int[] one = Files.method(0, 0, Files.join(Files.code(16, 5, 172), Files.times(1900, 87)));
        StepRewriter x = new StepRewriter();
        for (int turn = 0; turn < 3; turn++) {
            x.price(172, 0);
            x.price(16, 0);
            DUE.is("load of three", Files.load(x, Files.file(small, big, other)), 3);
            DUE.is("rewrite of three", x.rewrite(), 3 + 1800 + 304 + 3 * 5);
            DUE.is("unwrite of three", x.unwrite(), 3 + 1800 + 304);
            x.price(172, 1);
            x.price(16, 1);
            for (int again = 0; again < 4; again++) {
                DUE.is("load of one", Files.load(x, Files.file(again < 2 ? small : one)), 1);
                DUE.is("rewrite of one", x.rewrite(), again < 2 ? 8 : 8 + 1905);
                DUE.is("its METHOD 1", x.told(1, true, 0), StepRewriter.BAD);
                DUE.is("unwrite of one", x.unwrite(), again < 2 ? 3 : 3 + 1900);
            }
        }
    }

    private static void priceCountsFromRewrite() {
        DUE.sentence("The PRICE of instructions of a kind");
        StepRewriter x = Files.loaded(Files.alone(16, 1, 16, 2, 96, 172));
        DUE.is("SUM at first", x.block(0, 0, 1), 4);
        DUE.is("price of 16", x.price(16, 10), 1);
        DUE.is("both instructions of it", x.block(0, 0, 1), 22);
        DUE.is("price of 172", x.price(172, 3), 1);
        DUE.is("SUM then", x.block(0, 0, 1), 24);
        DUE.is("price of 16, what it was", x.price(16, 10), 10);
        DUE.sentence("(It counts from the next rewrite() on.)");
        x.rewrite();
        ASK.run("by 24", x, Ask.told(0, 0, 0, 100), ENDED, 3, 24, 4);
        x.price(96, 100);
        DUE.is("SUM now", x.block(0, 0, 1), 123);
        ASK.run("still by 24", x, Ask.told(0, 0, 0, 100), ENDED, 3, 24, 4);
        DUE.is("still with 24", x.byteAt(0, true, 4), 24);
        x.unwrite();
        ASK.run("by 24 behind unwrite", x, Ask.told(0, 0, 0, 100), ENDED, 3, 24, 4);
        x.rewrite();
        ASK.run("by 123, and STOPPED", x, Ask.told(0, 0, 0, 100), STOPPED, 0, 0, 0);
        ASK.run("by 123", x, Ask.told(0, 0, 0, 123), ENDED, 3, 123, 4);
        // PRICES are kept by load, and used for the next FILE
        Files.load(x, Files.alone(96, 16, 2, 172));
        Files.load(x, Files.alone(16, 2, 172));
        DUE.is("SUM of the next FILE", x.block(0, 0, 1), 13);
    }

    private static void rewriteTellsBytes() {
        DUE.sentence("The FILE is REWRITTEN by the PRICES now: how many bytes all METHODS' CODE has");
        StepRewriter x = Files.loaded(file());
        // METHOD 0: 9, 7, 127 with a 168 of 3, 8, 8, 6, where 153 and 167 do not fit: 3 and 1 more
        DUE.is("rewrite", x.rewrite(), 167 + 17);
        DUE.is("METHOD 0", x.told(0, true, 0), 167);
        DUE.is("METHOD 1", x.told(1, true, 0), 17);
        DUE.is("rewrite again", x.rewrite(), 167 + 17);
        x.price(172, 0);
        // METHOD 0 has a BLOCK less with a 202, its last; METHOD 1, too
        DUE.is("rewrite with less to be PAID", x.rewrite(), 162 + 12);
    }

    private static void toldOfEach() {
        DUE.sentence("Of METHOD m as it is REWRITTEN (written), or in the FILE: what = 0 bytes of CODE, 1 BLOCKS, "
            + "2 HANDLERS, 3 long 153 to 158, 4 168s of other ways");
        StepRewriter x = Files.rewritten(file());
        int[][] inFile = {{133, 6, 2, 0, 1, 1}, {6, 2, 1, 0, 0, 1}};
        int[][] written = {{167, 6, 2, 1, 2, NONE}, {17, 2, 1, 0, 0, NONE}};
        for (int m = 0; m < 2; m++) {
            for (int what = 0; what < 6; what++) {
                DUE.is("METHOD " + m + ", " + what, x.told(m, false, what), inFile[m][what]);
                DUE.is("METHOD " + m + " written, " + what, x.told(m, true, what), written[m][what]);
            }
        }
    }

    private static void toldNoneSuch() {
        DUE.sentence("STATE: there is none such");
        StepRewriter x = new StepRewriter();
        DUE.is("no FILE", x.told(0, false, 0), STATE);
        DUE.is("nothing REWRITTEN", x.told(0, true, 0), STATE);
        Files.load(x, file());
        DUE.is("a FILE", x.told(0, false, 0), 133);
        DUE.is("nothing REWRITTEN yet", x.told(0, true, 0), STATE);
        x.rewrite();
        DUE.is("REWRITTEN", x.told(0, true, 0), 167);
        x.clear();
        DUE.is("no FILE any more", x.told(0, false, 0), STATE);
        DUE.is("nothing REWRITTEN any more", x.told(0, true, 0), STATE);
    }

    private static void bytesOfEach() {
        DUE.sentence("Byte i of that CODE, 0 .. 255");
        StepRewriter x = Files.rewritten(file());
        ASK.bytes("METHOD 1", x, 1, false, 16, 2, 188, 3, 191, 172);
        ASK.bytes("METHOD 1 written", x, 1, true, 202, 0, 0, 0, 3, 16, 2, 203, 188, 3, 191, 202, 0, 0, 0, 1, 172);
        // 0: 202, 5: 21 0, 7: 154 over the 168 at 9 to 145, 12: 202, 17: 168 to 145, 20: 202, 25: nothing, 142: 168
        int[] want = Files.join(Files.code(202, 0, 0, 0, 2, 21, 0, 154, 5, 168, 0, 144, 202, 0, 0, 0, 1, 168, 0, 136,
            202, 0, 0, 0, 118), Files.times(117, 0), Files.code(168, 255, 256 - 142, 202, 0, 0, 0, 2, 16, 3, 172,
            202, 0, 0, 0, 2, 16, 4, 172, 202, 0, 0, 0, 1, 172));
        ASK.bytes("METHOD 0 written", x, 0, true, want);
    }

    private static void handlersOfEach() {
        DUE.sentence("HANDLER k: what = 0 FROM, 1 TO, 2 AT, 3 KIND");
        StepRewriter x = Files.rewritten(file());
        ASK.handler("METHOD 0", x, 0, false, 0, 0, 2, 132, 1);
        ASK.handler("METHOD 0", x, 0, false, 1, 126, 133, 132, 0);
        ASK.handler("METHOD 1", x, 1, false, 0, 2, 5, 5, 4);
        ASK.handler("METHOD 0 written", x, 0, true, 0, 0, 7, 161, 1);
        ASK.handler("METHOD 0 written", x, 0, true, 1, 145, 167, 161, 0);
        ASK.handler("METHOD 1 written", x, 1, true, 0, 7, 11, 11, 4);
    }

    private static void blocksOfEach() {
        DUE.sentence("BLOCK k of METHOD m, by places: what = 0 its beginning in the FILE, 1 its SUM by the PRICES now");
        StepRewriter x = Files.loaded(file());
        int[][] blocks = {{0, 2}, {4, 1}, {6, 118}, {126, 2}, {129, 2}, {132, 1}};
        for (int turn = 0; turn < 2; turn++) {
            for (int k = 0; k < blocks.length; k++) {
                DUE.is("BLOCK " + k, x.block(0, k, 0), blocks[k][0]);
                DUE.is("SUM " + k, x.block(0, k, 1), blocks[k][1]);
            }
            DUE.is("BLOCK 0 of METHOD 1", x.block(1, 0, 0), 0);
            DUE.is("its SUM", x.block(1, 0, 1), 3);
            DUE.is("BLOCK 1 of METHOD 1", x.block(1, 1, 0), 5);
            DUE.is("the same when it is REWRITTEN", x.rewrite(), 184);
        }
        x.price(0, 2);
        x.price(168, 1000);
        x.price(167, 0);
        DUE.is("SUM of nothing and 168", x.block(0, 2, 1), 2 * 117 + 1000);
        DUE.is("SUM of 167", x.block(0, 1, 1), 0);
        DUE.is("SUM of others", x.block(0, 0, 1), 2);
    }

    private static void runsAsRewritten() {
        DUE.sentence("A RUN of METHOD m as REWRITTEN, PARAMETERS 0 and 1 told");
        int[] minus = Files.method(2, 2, Files.code(21, 0, 21, 1, 100, 172));
        int[] one = Files.method(1, 2, Files.code(21, 0, 21, 1, 100, 172));
        StepRewriter x = Files.rewritten(Files.file(minus, one));
        ASK.run("METHOD 0", x, Ask.told(0, 9, 4, 100), ENDED, 5, 4, 4);
        ASK.run("METHOD 0, the other way", x, Ask.told(0, 4, 9, 100), ENDED, -5, 4, 4);
        ASK.run("METHOD 1 has one PARAMETER", x, Ask.told(1, 9, 4, 100), ENDED, 9, 4, 4);
        // the 168 of a long 153 is done, too, when it is taken
        x = Files.rewritten(file());
        ASK.run("long and taken", x, Ask.told(0, 0, 0, 4), ENDED, 4, 4, 5);
        ASK.run("long and taken, to what is not PAID", x, Ask.told(0, 0, 0, 3), STOPPED, 0, 2, 3);
        ASK.run("long and not taken", x, Ask.told(0, 1, 0, 3), STOPPED, 0, 3, 3);
    }

    private static void runTellsHow() {
        DUE.sentence("0 it ended; 1 it was STOPPED; 2 a KIND was thrown");
        // ends with 100 / x, if 3 are PAID and one more for the 172
        StepRewriter x = Files.rewritten(Files.alone(16, 100, 21, 0, 108, 172));
        DUE.is("it ended", x.run(0, 7, 0, 4), 0);
        DUE.is("it was STOPPED", x.run(0, 7, 0, 3), 1);
        DUE.is("a KIND was thrown", x.run(0, 0, 0, 4), 2);
        DUE.is("STOPPED before it is thrown", x.run(0, 0, 0, 3), 1);
        DUE.is("it ended again", x.run(0, 7, 0, 4), 0);
        // a KIND that a HANDLER has is none of the run
        x = Files.rewritten(file());
        DUE.is("caught", x.run(1, 0, 0, 100), 0);
        DUE.is("with KIND 4", x.answer(), 4);
    }

    private static void countedOfTheLatest() {
        DUE.sentence("COUNTED of the latest run(); 0 before");
        StepRewriter x = new StepRewriter();
        DUE.is("of a new one", x.counted(), 0);
        Files.load(x, file());
        DUE.is("behind load", x.counted(), 0);
        x.rewrite();
        DUE.is("behind rewrite", x.counted(), 0);
        x.run(1, 0, 0, 100);
        DUE.is("3, 2 for the making and 1", x.counted(), 6);
        x.run(1, 0, 0, 5);
        DUE.is("3 and 2", x.counted(), 5);
        x.run(1, 0, 0, 4);
        DUE.is("3", x.counted(), 3);
        x.rewrite();
        x.unwrite();
        x.price(16, 3);
        DUE.is("it stays", x.counted(), 3);
        x.run(1, 0, 0, 2);
        DUE.is("nothing", x.counted(), 0);
    }

    private static void stepsOfTheLatest() {
        DUE.sentence("0 before", "steps");
        DUE.is("of a new one", new StepRewriter().steps(), 0);
        DUE.sentence("How many instructions it did");
        int[] loop = {21, 0, 158, 11, 21, 0, 16, 255, 96, 54, 0, 167, 256 - 11, 16, 5, 172};
        StepRewriter x = Files.rewritten(Files.alone(loop));
        DUE.is("behind rewrite", x.steps(), 0);
        for (int n = 0; n < 5; n++) {
            ASK.run(n + " turns of seven", x, Ask.told(0, n, 0, 100), ENDED, 5, 7 * n + 4, 7 * n + 4);
        }
        // a called METHOD's are among them
        int[] caller = Files.method(0, 0, Files.code(184, 1, 87, 184, 1, 172));
        x = Files.rewritten(Files.file(caller, Files.method(0, 0, Files.code(0, 0, 16, 6, 172))));
        ASK.run("two calls", x, Ask.told(0, 0, 0, 100), ENDED, 6, 12 + 4 + 4, 4 + 4 + 4);
    }

    private static void elementsOfTheLatest() {
        DUE.sentence("Element i of ARRAY a behind the latest run()");
        // ARRAY 2 of x: its element y becomes 50, and then 16 1
        int[] code = {21, 0, 188, 2, 21, 1, 16, 50, 79, 2, 16, 1, 172};
        StepRewriter x = Files.rewritten(Files.alone(code));
        x.run(0, 3, 1, 100);
        elements(x, 0, 50, 0);
        x.run(0, 2, 0, 100);
        elements(x, 50, 0);
        DUE.is("a KIND is thrown", x.run(0, 1, 1, 100), THROWN);
        elements(x, 0);
        DUE.is("STOPPED behind the first 202", x.run(0, 9, 1, 15), STOPPED);
        elements(x);
        x.run(0, 2, 1, 100);
        x.rewrite();
        x.unwrite();
        elements(x, 0, 50);
        Files.load(x, file());
        elements(x, 0, 50);
        x.rewrite();
        x.run(1, 0, 0, 100);
        elements(x);
        DUE.is("ARRAY 3 of the latest", x.element(3, -1), 2);
        DUE.sentence("(Elements may be anything.)");
        x = Files.rewritten(Files.alone(16, 1, 188, 0, 16, 0, 21, 0, 79, 0, 191));
        for (int v : new int[] {-1, -2, -3, -4, 0, 1, Integer.MIN_VALUE, Integer.MAX_VALUE}) {
            x.run(0, v, 0, 100);
            DUE.is("element", x.element(0, 0), v);
        }
    }

    /** What ARRAY 2 has, and that the others that are not made have none. */
    private static void elements(StepRewriter x, int... want) {
        DUE.is("how many", x.element(2, -1), want.length);
        for (int i = 0; i < want.length; i++) {
            DUE.is("element " + i, x.element(2, i), want[i]);
        }
        DUE.is("none behind", x.element(2, want.length), NONE);
        DUE.is("none of ARRAY 0", x.element(0, 0), NONE);
        DUE.is("none of ARRAY 1", x.element(1, -1), 0);
    }

    private static void unwriteTellsBytes() {
        DUE.sentence("(as REWRITTEN of nothing PAID): how many bytes all CODE has");
        StepRewriter x = Files.rewritten(file());
        // the 168 of METHOD 0 fits by -123
        DUE.is("unwrite", x.unwrite(), 132 + 6);
        DUE.is("METHOD 0", x.told(0, false, 0), 132);
        DUE.is("METHOD 1", x.told(1, false, 0), 6);
        DUE.is("its 168 is 167", x.byteAt(0, false, 123), 167);
        DUE.is("its way", x.byteAt(0, false, 124), 256 - 123);
        DUE.is("153 leads a byte less far", x.byteAt(0, false, 3), 126);
        DUE.is("167 leads a byte less far", x.byteAt(0, false, 5), 124);
        ASK.handler("METHOD 0", x, 0, false, 0, 0, 2, 131, 1);
        ASK.handler("METHOD 0", x, 0, false, 1, 125, 132, 131, 0);
        // nothing PAID by 202, but by 203, is not what it is
        StepRewriter y = Files.loaded(Files.alone(16, 0, 188, 0, 191));
        for (int kind : new int[] {16, 188, 191}) {
            y.price(kind, 0);
        }
        DUE.is("203 alone", y.rewrite(), 6);
        DUE.is("and without it", y.unwrite(), 5);
    }

    private static void unwriteIsAsLoaded() {
        DUE.sentence("in place of the one there was, as if it were loaded");
        StepRewriter x = Files.rewritten(file());
        x.unwrite();
        asLoaded("unwritten", x, file(), 1);
        DUE.is("unwritten once more", x.unwrite(), 138);
        asLoaded("unwritten once more", x, file(), 1);
    }

    private static void unwrittenByChance() {
        DUE.sentence("What is REWRITTEN becomes a FILE again, in place of the one there was, as if it were loaded",
            "by chance");
        for (int seed = 1; seed <= 60; seed++) {
            Random chance = new Random(seed);
            int[] file = new Programs(chance).file(seed % 6 == 0 ? 1500 : 200);
            StepRewriter x = Files.loaded(file);
            x.price(21, seed % 3);
            if (x.rewrite() > 0) {
                x.unwrite();
                asLoaded("FILE " + seed, x, file, seed % 3);
            }
        }
    }

    /**
     * Another object loads what this one tells of its FILE: they are to be the same. How many PARAMETERS and
     * LOCALS there are, which no call tells, is taken from the FILE before; 21 has a price, all else as at first.
     */
    private static void asLoaded(String what, StepRewriter x, int[] before, int price) {
        int n = before[0];
        int[][] methods = new int[n][];
        int at = 1;
        for (int m = 0; m < n; m++) {
            methods[m] = methodOf(x, m, before[at], before[at + 1]);
            int codeEnd = at + 4 + (before[at + 2] << 8 | before[at + 3]);
            at = codeEnd + 1 + 7 * before[codeEnd];
        }
        StepRewriter y = Files.loaded(Files.file(methods));
        y.price(21, price);
        same(what, x, y, n, false);
        DUE.is(what + ", rewrite", x.rewrite(), y.rewrite());
        same(what + " and rewritten", x, y, n, true);
        for (int m = 0; m < n; m++) {
            DUE.is(what + ", run", x.run(m, 5, -3, 5000), y.run(m, 5, -3, 5000));
            DUE.is(what + ", answer", x.answer(), y.answer());
            DUE.is(what + ", counted", x.counted(), y.counted());
            DUE.is(what + ", steps", x.steps(), y.steps());
        }
    }

    private static int[] methodOf(StepRewriter x, int m, int parameters, int locals) {
        int[] code = new int[x.told(m, false, 0)];
        for (int i = 0; i < code.length; i++) {
            code[i] = x.byteAt(m, false, i);
        }
        int[][] handlers = new int[x.told(m, false, 2)][4];
        for (int k = 0; k < handlers.length; k++) {
            for (int what = 0; what < 4; what++) {
                handlers[k][what] = x.handler(m, false, k, what);
            }
        }
        return Files.method(parameters, locals, code, handlers);
    }

    private static void same(String what, StepRewriter x, StepRewriter y, int methods, boolean written) {
        for (int m = 0; m < methods; m++) {
            for (int i = 0; i < 6; i++) {
                DUE.is(what + ", told " + i, x.told(m, written, i), y.told(m, written, i));
            }
            for (int i = 0; i < y.told(m, written, 0); i++) {
                DUE.is(what + ", byte " + i, x.byteAt(m, written, i), y.byteAt(m, written, i));
            }
            for (int k = 0; k < 8; k++) {
                for (int i = 0; i < 4; i++) {
                    DUE.is(what + ", HANDLER " + k, x.handler(m, written, k, i), y.handler(m, written, k, i));
                }
            }
            for (int k = 0; k < Math.min(40, y.told(m, false, 1)); k++) {
                DUE.is(what + ", BLOCK " + k, x.block(m, k, 0), y.block(m, k, 0));
                DUE.is(what + ", SUM " + k, x.block(m, k, 1), y.block(m, k, 1));
            }
        }
    }
}
