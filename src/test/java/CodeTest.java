/** Promises 5 to 9 and 15: rewrite, told, byteAt, handler, block, unwrite. */
public final class CodeTest {
    private static final int NONE = StepRewriter.NONE, STATE = StepRewriter.STATE, BAD = StepRewriter.BAD;
    private static final Due DUE = new Due("CodeTest");
    private static final Ask ASK = new Ask(DUE);

    public static void main(String[] args) {
        plain();
        makings();
        nothingPaid();
        bigSums();
        branches();
        branchEdges();
        jumpsBack();
        jumpsThatGrowOthers();
        tooBig();
        methods();
        handlers();
        blocks();
        wrongArguments();
        unwriteShortens();
        unwriteOwnLongBranch();
        unwriteKeeps();
        DUE.end();
    }

    private static void plain() {
        StepRewriter x = Files.loaded(Files.alone(21, 0, 21, 1, 96, 172));
        DUE.is("nothing is REWRITTEN yet", x.told(0, true, 0), STATE);
        DUE.is("rewrite", x.rewrite(), 11);
        ASK.bytes("plain", x, 0, true, 202, 0, 0, 0, 4, 21, 0, 21, 1, 96, 172);
        ASK.bytes("plain, FILE", x, 0, false, 21, 0, 21, 1, 96, 172);
        DUE.is("unwrite", x.unwrite(), 6);
        ASK.bytes("plain, unwritten", x, 0, false, 21, 0, 21, 1, 96, 172);
        ASK.bytes("plain, still REWRITTEN", x, 0, true, 202, 0, 0, 0, 4, 21, 0, 21, 1, 96, 172);
        int[] depths = {6, 1, 0, 0, 0, 2};
        int[] writtenDepths = {11, 1, 0, 0, 0, NONE};
        for (int what = 0; what < 6; what++) {
            DUE.is("told " + what, x.told(0, false, what), depths[what]);
            DUE.is("told written " + what, x.told(0, true, what), writtenDepths[what]);
        }
    }

    private static void makings() {
        // 188 at place 2 and, as a BLOCK's beginning, at place 8
        int[] file = Files.alone(21, 0, 188, 0, 21, 0, 167, 2, 188, 1, 16, 7, 172);
        StepRewriter x = Files.loaded(file);
        DUE.is("rewrite", x.rewrite(), 13 + 5 + 1 + 5 + 1);
        ASK.bytes("makings", x, 0, true, 202, 0, 0, 0, 4, 21, 0, 203, 188, 0, 21, 0, 167, 2,
            202, 0, 0, 0, 3, 203, 188, 1, 16, 7, 172);
        x.price(188, 0);
        x.price(16, 0);
        x.price(172, 0);
        DUE.is("rewrite with a BLOCK of SUM 0", x.rewrite(), 13 + 5 + 1 + 1);
        ASK.bytes("makings, SUM 0", x, 0, true, 202, 0, 0, 0, 3, 21, 0, 203, 188, 0, 21, 0, 167, 2,
            203, 188, 1, 16, 7, 172);
        DUE.is("unwrite", x.unwrite(), 13);
        ASK.bytes("makings, unwritten", x, 0, false, 21, 0, 188, 0, 21, 0, 167, 2, 188, 1, 16, 7, 172);
    }

    private static void nothingPaid() {
        StepRewriter x = Files.loaded(Files.alone(21, 0, 154, 4, 167, 252, 16, 1, 172));
        for (int kind : new int[] {21, 154, 167, 16, 172}) {
            x.price(kind, 0);
        }
        DUE.is("rewrite of nothing PAID", x.rewrite(), 9);
        ASK.bytes("nothing PAID", x, 0, true, 21, 0, 154, 4, 167, 252, 16, 1, 172);
        x.price(167, 1);
        DUE.is("rewrite of one BLOCK PAID", x.rewrite(), 14);
        ASK.bytes("one BLOCK PAID", x, 0, true, 21, 0, 154, 9, 202, 0, 0, 0, 1, 167, 247, 16, 1, 172);
    }

    private static void bigSums() {
        StepRewriter x = Files.loaded(Files.alone(Files.join(Files.times(1997, 0), Files.code(16, 1, 172))));
        x.price(0, 1000);
        DUE.is("a SUM of three bytes", x.block(0, 0, 1), 1997002);
        DUE.is("rewrite", x.rewrite(), 2005);
        int[] head = {202, 0x00, 0x1E, 0x78, 0xCA, 0};
        for (int i = 0; i < head.length; i++) {
            DUE.is("byte " + i, x.byteAt(0, true, i), head[i]);
        }
    }

    /** 16 1, a branch to the last 16 9 172, 16 7 172, n BLOCKS of 172, z instructions that do nothing. */
    private static int[] branch(int kind, int n, int z) {
        int[] middle = Files.join(Files.code(16, 7), Files.times(z, 0), Files.code(172), Files.times(n, 172));
        return Files.join(Files.code(16, 1, kind, middle.length + 2), middle, Files.code(16, 9, 172));
    }

    private static void branches() {
        for (int kind = 153; kind <= 158; kind++) {
            int other = kind % 2 == 1 ? kind + 1 : kind - 1;
            StepRewriter x = Files.loaded(Files.alone(branch(kind, 19, 0)));
            DUE.is("short " + kind, x.rewrite(), 139);
            DUE.is("none is long " + kind, x.told(0, true, 3), 0);
            DUE.is("as it was " + kind, x.byteAt(0, true, 7), kind);
            DUE.is("its way " + kind, x.byteAt(0, true, 8), 124);

            x = Files.loaded(Files.alone(branch(kind, 20, 0)));
            DUE.is("long " + kind, x.rewrite(), 148);
            int[] want = {202, 0, 0, 0, 2, 16, 1, other, 5, 168, 0, 131, 202, 0, 0, 0, 2, 16, 7, 172};
            for (int i = 0; i < want.length; i++) {
                DUE.is("long " + kind + ", byte " + i, x.byteAt(0, true, i), want[i]);
            }
            DUE.is("it leads there", x.byteAt(0, true, 140), 202);
            int[] file = {30, 23, 0, 0, 0, 1};
            int[] written = {148, 23, 0, 1, 0, NONE};
            for (int what = 0; what < 6; what++) {
                DUE.is("told " + what, x.told(0, false, what), file[what]);
                DUE.is("told written " + what, x.told(0, true, what), written[what]);
            }
            DUE.is("unwrite", x.unwrite(), 30);
            ASK.bytes("short again", x, 0, false, branch(kind, 20, 0));
        }
    }

    private static void branchEdges() {
        StepRewriter x = Files.loaded(Files.alone(branch(153, 19, 3)));
        DUE.is("a way of 127", x.rewrite(), 142);
        DUE.is("fits", x.byteAt(0, true, 8), 127);
        x = Files.loaded(Files.alone(branch(153, 19, 4)));
        DUE.is("a way of 128", x.rewrite(), 146);
        DUE.is("does not fit", x.byteAt(0, true, 9), 168);
        DUE.is("and is told", x.told(0, true, 3), 1);
    }

    private static void jumpsBack() {
        StepRewriter x = Files.loaded(Files.alone(Files.join(Files.times(123, 0), Files.code(167, -123))));
        DUE.is("a way of -128", x.rewrite(), 130);
        DUE.is("is 167", x.byteAt(0, true, 128), 167);
        DUE.is("by", x.byteAt(0, true, 129), 128);
        x = Files.loaded(Files.alone(Files.join(Files.times(124, 0), Files.code(167, -124))));
        DUE.is("a way of -129", x.rewrite(), 132);
        DUE.is("is 168", x.byteAt(0, true, 129), 168);
        DUE.is("by, high", x.byteAt(0, true, 130), 255);
        DUE.is("by, low", x.byteAt(0, true, 131), 127);
        DUE.is("168s of other ways", x.told(0, true, 4), 1);
        DUE.is("168s of the FILE", x.told(0, false, 4), 0);
        DUE.is("no long branch", x.told(0, true, 3), 0);
        DUE.is("unwrite", x.unwrite(), 126);
        DUE.is("it is 167 again", x.byteAt(0, false, 124), 167);
        x = Files.loaded(Files.alone(168, 0, 3, 168, 255, 253));
        DUE.is("168s that fit", x.told(0, false, 4), 2);
        DUE.is("become 167", x.rewrite(), 14);
        ASK.bytes("167s", x, 0, true, 202, 0, 0, 0, 1, 167, 2, 202, 0, 0, 0, 1, 167, -12);
        DUE.is("none are left", x.told(0, true, 4), 0);
    }

    private static void jumpsThatGrowOthers() {
        // 0: 122 times nothing, 122: 21 0, 124: 153 to 251, 126: 167 to 0, 128: .., 251: 16 5 172. Only the
        // first BLOCK is PAID: 167 does not fit then, and by its third byte the 153 doesn't, either.
        int[] dead = Files.times(123, 87);
        int[] code = Files.join(Files.times(122, 0), Files.code(21, 0, 153, 127, 167, -126), dead,
            Files.code(16, 5, 172));
        StepRewriter x = Files.loaded(Files.alone(code));
        for (int kind : new int[] {21, 153, 167, 87, 16, 172}) {
            x.price(kind, 0);
        }
        DUE.is("rewrite", x.rewrite(), 263);
        DUE.is("the 153 is long", x.told(0, true, 3), 1);
        DUE.is("the 167 is long", x.told(0, true, 4), 1);
        int[] want = {154, 5, 168, 0, 129, 168, 255, 256 - 134, 87};
        for (int i = 0; i < want.length; i++) {
            DUE.is("byte " + (129 + i), x.byteAt(0, true, 129 + i), want[i]);
        }
        DUE.is("unwrite", x.unwrite(), code.length);
        ASK.bytes("short again", x, 0, false, code);
    }

    /** Of a METHOD of 8 bytes, n BLOCKS of 6 and z of 7 bytes when it is REWRITTEN. */
    private static int[] sized(int n, int z) {
        return Files.join(Files.code(16, 5, 172), Files.times(n, 172), Files.times(z, 0, 172));
    }

    private static void tooBig() {
        StepRewriter x = Files.loaded(Files.alone(sized(663, 2)));
        DUE.is("4000 bytes", x.rewrite(), 4000);
        DUE.is("BLOCKS", x.told(0, true, 1), 666);
        DUE.is("last byte", x.byteAt(0, true, 3999), 172);
        DUE.is("no byte more", x.byteAt(0, true, 4000), BAD);
        DUE.is("unwrite", x.unwrite(), 670);
        x = Files.loaded(Files.alone(sized(662, 3)));
        DUE.is("4001 bytes", x.rewrite(), -10);
        int[] small = Files.method(0, 0, Files.code(16, 5, 172));
        int[] big = Files.method(0, 0, sized(662, 3));
        x = Files.loaded(Files.file(small, big, big));
        DUE.is("METHOD 1 is the first that is too big", x.rewrite(), -11);
        DUE.is("nothing is REWRITTEN", x.told(0, true, 0), STATE);
        x.price(172, 0);
        DUE.is("cheaper", x.rewrite(), 8 + (3 + 662 + 6 + 5 * 4) * 2);
        DUE.is("it is REWRITTEN", x.told(1, true, 0), 691);
        x.price(172, 1);
        DUE.is("too big again", x.rewrite(), -11);
        DUE.is("what was REWRITTEN is gone", x.run(0, 0, 0, 10), STATE);
        DUE.is("it can't be unwritten", x.unwrite(), STATE);
        DUE.is("the FILE is there", x.told(2, false, 0), 671);
        int[] most = Files.method(0, 0, sized(490, 0));
        x = Files.loaded(Files.file(most, most, most, most, most, most, most, most));
        DUE.is("all of eight METHODS", x.rewrite(), 8 * (8 + 490 * 6));
        DUE.is("the last byte of the last", x.byteAt(7, true, 8 + 490 * 6 - 1), 172);
        DUE.is("the first byte of the last", x.byteAt(7, true, 0), 202);
        DUE.is("unwrite of eight", x.unwrite(), 8 * 493);
    }

    private static void methods() {
        int[] a = Files.method(0, 1, Files.code(16, 5, 172));
        int[] b = Files.method(1, 2, Files.code(21, 0, 184, 0, 96, 172), Files.handler(0, 6, 5, 2));
        StepRewriter x = Files.loaded(Files.file(a, b));
        DUE.is("rewrite", x.rewrite(), 8 + 16);
        ASK.bytes("METHOD 0", x, 0, true, 202, 0, 0, 0, 2, 16, 5, 172);
        ASK.bytes("METHOD 1", x, 1, true, 202, 0, 0, 0, 7, 21, 0, 184, 0, 96, 202, 0, 0, 0, 1, 172);
        DUE.is("BLOCKS of METHOD 1", x.told(1, false, 1), 2);
        DUE.is("HANDLERS of METHOD 0", x.told(0, true, 2), 0);
        DUE.is("HANDLERS of METHOD 1", x.told(1, true, 2), 1);
        DUE.is("unwrite", x.unwrite(), 9);
        ASK.bytes("METHOD 1, unwritten", x, 1, false, 21, 0, 184, 0, 96, 172);
        int[] handler = {0, 6, 5, 2};
        for (int what = 0; what < 4; what++) {
            DUE.is("its HANDLER " + what, x.handler(1, false, 0, what), handler[what]);
        }
        DUE.is("its depth", x.told(1, false, 5), 2);
    }

    private static void handlers() {
        // 188 at 2 is no BLOCK's beginning, 7 is one
        int[] code = {16, 5, 188, 0, 16, 1, 172, 172};
        int[][] given = {{2, 4, 7, 4}, {0, 2, 7, 0}, {4, 8, 7, 1}, {6, 7, 7, 2}, {7, 8, 7, 3}};
        int[][] want = {{7, 10, 13, 4}, {0, 7, 13, 0}, {10, 19, 13, 1}, {12, 13, 13, 2}, {13, 19, 13, 3}};
        StepRewriter x = Files.rewritten(Files.file(Files.method(0, 0, code, given)));
        DUE.is("bytes", x.told(0, true, 0), 19);
        for (int k = 0; k < given.length; k++) {
            for (int what = 0; what < 4; what++) {
                DUE.is("HANDLER " + k + ", " + what, x.handler(0, false, k, what), given[k][what]);
                DUE.is("HANDLER written " + k + ", " + what, x.handler(0, true, k, what), want[k][what]);
            }
        }
        x.price(172, 0);
        x.rewrite();
        DUE.is("AT without 202", x.handler(0, true, 0, 2), 13);
        DUE.is("the end then", x.handler(0, true, 2, 1), 14);
        x.unwrite();
        for (int k = 0; k < given.length; k++) {
            for (int what = 0; what < 4; what++) {
                DUE.is("HANDLER unwritten " + k + ", " + what, x.handler(0, false, k, what), given[k][what]);
            }
        }
    }

    private static void blocks() {
        // 0: 21 0, 2: 153 to 7, 4: 16 1, 6: 172, 7: 191, 8: 0, 9: 167 to 8, 11: 0, 12: 172 (AT)
        int[] code = {21, 0, 153, 5, 16, 1, 172, 191, 0, 167, 255, 0, 172};
        int[] handler = Files.handler(0, 2, 12, 0);
        StepRewriter x = Files.loaded(Files.file(Files.method(1, 1, code, handler)));
        int[] begins = {0, 4, 7, 8, 11, 12};
        int[] sums = {2, 2, 1, 2, 1, 1};
        DUE.is("BLOCKS", x.told(0, false, 1), begins.length);
        for (int k = 0; k < begins.length; k++) {
            DUE.is("BLOCK " + k, x.block(0, k, 0), begins[k]);
            DUE.is("SUM " + k, x.block(0, k, 1), sums[k]);
        }
        x.price(153, 40);
        x.price(21, 0);
        DUE.is("SUM 0 by other PRICES", x.block(0, 0, 1), 40);
        DUE.is("no BLOCK -1", x.block(0, -1, 0), BAD);
        DUE.is("no BLOCK 6", x.block(0, 6, 0), BAD);
        DUE.is("no what 2", x.block(0, 0, 2), BAD);
        DUE.is("no what -1", x.block(0, 0, -1), BAD);
        DUE.is("no METHOD 1", x.block(1, 0, 0), BAD);
        DUE.is("no METHOD -1", x.block(-1, 0, 0), BAD);
    }

    private static void wrongArguments() {
        int[] code = {16, 5, 172, 172};
        StepRewriter x = Files.loaded(Files.file(Files.method(0, 0, code, Files.handler(0, 2, 3, 0))));
        DUE.is("told, nothing REWRITTEN", x.told(9, true, 9), STATE);
        DUE.is("byteAt, nothing REWRITTEN", x.byteAt(9, true, 9), STATE);
        DUE.is("handler, nothing REWRITTEN", x.handler(9, true, 9, 9), STATE);
        x.rewrite();
        for (boolean written : new boolean[] {false, true}) {
            for (int m : new int[] {-1, 1, 8, Integer.MAX_VALUE, Integer.MIN_VALUE}) {
                DUE.is("told of " + m, x.told(m, written, 0), BAD);
                DUE.is("told of " + m, x.told(m, written, 5), BAD);
                DUE.is("byteAt of " + m, x.byteAt(m, written, 0), BAD);
                DUE.is("handler of " + m, x.handler(m, written, 0, 0), BAD);
            }
            for (int i : new int[] {-1, 1000000, Integer.MAX_VALUE, Integer.MIN_VALUE}) {
                DUE.is("told " + i, x.told(0, written, i), BAD);
                DUE.is("byteAt " + i, x.byteAt(0, written, i), BAD);
                DUE.is("handler " + i, x.handler(0, written, i, 0), BAD);
                DUE.is("handler what " + i, x.handler(0, written, 0, i), BAD);
            }
            DUE.is("told 6", x.told(0, written, 6), BAD);
            DUE.is("handler 1", x.handler(0, written, 1, 0), BAD);
            DUE.is("handler what 4", x.handler(0, written, 0, 4), BAD);
        }
    }

    private static void unwriteShortens() {
        // 0: 168 to 131, 3: 128 times nothing, 131: 168 to 0: both are 128 or more while one is long
        int[] code = Files.join(Files.code(168, 0, 131), Files.times(128, 0), Files.code(168, 255, 256 - 131));
        StepRewriter x = Files.rewritten(Files.alone(code));
        DUE.is("unwrite of what does not fit", x.unwrite(), 134);
        ASK.bytes("they stay long", x, 0, false, code);
        DUE.is("168s", x.told(0, false, 4), 2);
        code = Files.join(Files.code(168, 0, 128), Files.times(125, 0), Files.code(168, 255, 128));
        x = Files.rewritten(Files.alone(code));
        DUE.is("unwrite of what fits", x.unwrite(), 129);
        ASK.bytes("they are short", x, 0, false,
            Files.join(Files.code(167, 127), Files.times(125, 0), Files.code(167, -127)));
        DUE.is("no 168s", x.told(0, false, 4), 0);
        DUE.is("168s of what is REWRITTEN stay", x.told(0, true, 4), 2);
        x.price(167, 10);
        DUE.is("SUM is of 167 then", x.block(0, 0, 1), 10);
        DUE.is("unwrite again", x.unwrite(), 129);
    }

    private static void unwriteOwnLongBranch() {
        // The FILE itself has a 154 over a 168; they are two instructions, and no long 153
        int[] far = Files.times(200, 0);
        int[] code = Files.join(Files.code(21, 0, 154, 5, 168, 0, 206, 16, 1, 172), far, Files.code(16, 2, 172));
        StepRewriter x = Files.loaded(Files.alone(code));
        x.price(168, 0);
        x.rewrite();
        DUE.is("no long 153", x.told(0, true, 3), 0);
        DUE.is("one 168", x.told(0, true, 4), 1);
        DUE.is("unwrite", x.unwrite(), code.length);
        ASK.bytes("as it was", x, 0, false, code);
    }

    private static void unwriteKeeps() {
        StepRewriter x = Files.rewritten(Files.alone(21, 0, 168, 0, 3, 172));
        x.run(0, 8, 0, 100);
        x.feed(77, 1);
        DUE.is("unwrite", x.unwrite(), 5);
        DUE.is("the tape stays", x.feed(77, 1), 2);
        DUE.is("the run stays", x.answer(), 8);
        DUE.is("what is REWRITTEN stays", x.told(0, true, 0), 15);
        DUE.is("it runs", x.run(0, 9, 0, 100), 0);
        DUE.is("and ends with", x.answer(), 9);
        DUE.is("rewrite of what was unwritten", x.rewrite(), 15);
        DUE.is("load drops what is REWRITTEN", Files.load(x, Files.code(1)), -10);
        Files.load(x, Files.alone(16, 1, 172));
        DUE.is("nothing to unwrite", x.unwrite(), STATE);
    }
}
