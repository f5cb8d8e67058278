/**
 * BLOCKS, PRICES, SUMS and REWRITTEN (promises 4 to 9 and 15): each sentence with a boundary, at it and one
 * beyond it on either side.
 */
public final class WrittenEdgeTest {
    private static final int STATE = StepRewriter.STATE, BAD = StepRewriter.BAD;
    private static final int[] KINDS = {0, 16, 17, 21, 54, 87, 89, 96, 100, 104, 108, 112, 116, 126, 128, 130, 153,
        154, 155, 156, 157, 158, 167, 168, 172, 184, 188, 190, 46, 79, 191};
    private static final Due DUE = new Due("WrittenEdgeTest");

    public static void main(String[] args) {
        firstPrices();
        priceBounds();
        blocksBegin();
        sumAboveZero();
        sumBytes();
        eachMaking();
        jumpsLead();
        forwardFits();
        backwardFits();
        ownPaymentIsNoWay();
        againAndAgain();
        untilNoneDoes();
        handlersMove();
        greatestLength();
        rewrittenAnew();
        tooBig();
        firstTooBig();
        unwriteFits();
        unwriteMakesShort();
        DUE.end();
    }

    private static int[] method(int... code) {
        return Files.file(Files.method(1, 1, code));
    }

    /** A FILE for which nothing is PAID but by 203. */
    private static StepRewriter cheap(int... code) {
        StepRewriter x = Files.loaded(method(code));
        for (int kind : KINDS) {
            x.price(kind, 0);
        }
        return x;
    }

    private static void bytes(String what, StepRewriter x, int at, int... want) {
        for (int i = 0; i < want.length; i++) {
            DUE.is(what + ", byte " + (at + i), x.byteAt(0, true, at + i), want[i] & 255);
        }
    }

    private static int[] instruction(int kind) {
        boolean alone = kind == 0 || kind == 87 || kind == 89 || kind == 116 || kind == 172 || kind == 191
            || kind >= 96 && kind <= 130;
        int size = kind == 17 || kind == 168 ? 3 : alone ? 1 : 2;
        return Files.first(Files.code(kind), size);
    }

    private static void firstPrices() {
        DUE.sentence("PRICES are for each byte of an instruction's kind (1 at first, of 184 5)");
        for (int kind : KINDS) {
            int first = kind == 184 ? 5 : 1;
            StepRewriter x = Files.loaded(method(Files.join(Files.code(191), instruction(kind))));
            DUE.is("SUM of " + kind, x.block(0, 1, 1), first);
            DUE.is("price of " + kind, x.price(kind, 700), first);
            DUE.is("SUM of " + kind + " then", x.block(0, 1, 1), 700);
            DUE.is("SUM of 191 by the price of " + kind, x.block(0, 0, 1), kind == 191 ? 700 : 1);
        }
    }

    private static void priceBounds() {
        DUE.sentence("becomes v (0 .. 1000): what it was. BAD.");
        for (int kind : KINDS) {
            StepRewriter x = new StepRewriter();
            int was = kind == 184 ? 5 : 1;
            for (int v : new int[] {-1, 0, 1, 999, 1000, 1001, 1002, Integer.MIN_VALUE, Integer.MAX_VALUE}) {
                boolean right = v >= 0 && v <= 1000;
                DUE.is("price of " + kind + " to " + v, x.price(kind, v), right ? was : BAD);
                was = right ? v : was;
            }
            DUE.is("price of " + kind + " at last", x.price(kind, 3), 1000);
        }
        DUE.sentence("a kind (a byte told above, but 202, 203)");
        StepRewriter x = new StepRewriter();
        for (int kind = -2; kind <= 258; kind++) {
            boolean told = false;
            for (int one : KINDS) {
                told |= one == kind;
            }
            DUE.is("price of " + kind, x.price(kind, 2), !told ? BAD : kind == 184 ? 5 : 1);
        }
        DUE.is("price of 202 out of bounds", x.price(202, 1001), BAD);
        DUE.is("price of 203 out of bounds", x.price(203, -1), BAD);
    }

    private static void blocks(String what, int[] code, int[][] handlers, int... begins) {
        StepRewriter x = Files.loaded(Files.file(Files.method(1, 1, code, handlers)));
        DUE.is("BLOCKS, " + what, x.told(0, false, 1), begins.length);
        for (int k = 0; k < begins.length; k++) {
            DUE.is("BLOCK " + k + ", " + what, x.block(0, k, 0), begins[k]);
        }
        DUE.is("no BLOCK more, " + what, x.block(0, begins.length, 0), BAD);
        x.rewrite();
        DUE.is("BLOCKS as REWRITTEN, " + what, x.told(0, true, 1), begins.length);
    }

    private static void blocksBegin() {
        int[][] none = {};
        DUE.sentence("BLOCKS of a METHOD begin at place 0");
        blocks("one byte", Files.code(191), none, 0);
        blocks("one BLOCK", Files.code(0, 16, 0, 184, 0, 172), none, 0);
        DUE.sentence("at places that jumps lead to, behind jumps");
        for (int kind = 153; kind <= 158; kind++) {
            blocks(kind + " to the last", Files.code(16, 0, kind, 4, 0, 0, 191), none, 0, 4, 6);
            blocks(kind + " to the next", Files.code(16, 0, kind, 2, 0, 0, 191), none, 0, 4);
            blocks(kind + " to the first", Files.code(16, 0, kind, 254, 0, 191), none, 0, 4);
            blocks(kind + " that one doesn't come to", Files.code(191, kind, 3, 0, 0, 191), none, 0, 1, 3, 4);
            blocks(kind + " is the last", Files.code(191, kind, 255), none, 0, 1);
        }
        blocks("167", Files.code(0, 167, 4, 0, 0, 191), none, 0, 3, 5);
        blocks("167 to itself", Files.code(0, 167, 0), none, 0, 1);
        blocks("168", Files.code(0, 168, 0, 5, 0, 0, 191), none, 0, 4, 6);
        blocks("168 is the last", Files.code(0, 168, 255, 255), none, 0);
        DUE.sentence("172, 191 (also those that one doesn't come to)");
        blocks("172", Files.code(16, 0, 172, 0, 191), none, 0, 3);
        blocks("191", Files.code(191, 0, 172, 0), none, 0, 1, 3);
        blocks("172 is the last", Files.code(16, 0, 0, 172), none, 0);
        DUE.sentence("and at each AT");
        int[] code = {0, 0, 191, 0, 0, 172};
        blocks("without AT", code, none, 0, 3);
        blocks("AT 4", code, new int[][] {{0, 6, 4, 0}}, 0, 3, 4);
        blocks("FROM and TO are none", code, new int[][] {{1, 5, 3, 0}}, 0, 3);
        blocks("AT 4 and 5", code, new int[][] {{0, 6, 5, 1}, {0, 6, 4, 0}, {0, 6, 5, 0}}, 0, 3, 4, 5);
    }

    private static void sumAboveZero() {
        DUE.sentence("at the beginning of each BLOCK whose SUM is above 0 stands 202 with it");
        StepRewriter x = cheap(0, 191, 16, 0, 172);
        DUE.is("SUMS of 0", x.rewrite(), 5);
        bytes("no 202", x, 0, 0, 191, 16, 0, 172);
        x.price(191, 1);
        DUE.is("a SUM of 1 and one of 0", x.rewrite(), 10);
        bytes("one 202", x, 0, 202, 0, 0, 0, 1, 0, 191, 16, 0, 172);
        x.price(191, 0);
        x.price(172, 2);
        DUE.is("a SUM of 0 and one of 2", x.rewrite(), 10);
        bytes("the other 202", x, 0, 0, 191, 202, 0, 0, 0, 2, 16, 0, 172);
        x.price(0, 3);
        DUE.is("both", x.rewrite(), 15);
        bytes("both 202s", x, 0, 202, 0, 0, 0, 3, 0, 191, 202, 0, 0, 0, 2, 16, 0, 172);
        DUE.is("SUM of BLOCK 0", x.block(0, 0, 1), 3);
        DUE.is("SUM of BLOCK 1", x.block(0, 1, 1), 2);
    }

    private static void sumBytes() {
        DUE.sentence("202 a b c d: a number (four bytes)");
        int[][] sums = {{255, 1, 255}, {256, 1, 256}, {65535, 257, 255}, {65536, 256, 256}, {1999000, 1999, 1000}};
        for (int[] sum : sums) {
            StepRewriter x = cheap(Files.join(Files.times(sum[1], 0), Files.code(191)));
            x.price(0, sum[2]);
            DUE.is("SUM " + sum[0], x.block(0, 0, 1), sum[0]);
            x.rewrite();
            bytes("SUM " + sum[0], x, 0, 202, sum[0] >> 24, sum[0] >> 16, sum[0] >> 8, sum[0], 0);
        }
    }

    private static void eachMaking() {
        DUE.sentence("and ahead of each 188 stands 203");
        int[] code = {16, 0, 188, 0, 16, 0, 188, 1, 191, 188, 3, 188, 2};
        StepRewriter x = cheap(code);
        DUE.is("for nothing", x.rewrite(), 17);
        bytes("for nothing", x, 0, 16, 0, 203, 188, 0, 16, 0, 203, 188, 1, 191, 203, 188, 3, 203, 188, 2);
        x.price(188, 1);
        DUE.is("for 1", x.rewrite(), 27);
        bytes("for 1", x, 0, 202, 0, 0, 0, 2, 16, 0, 203, 188, 0, 16, 0, 203, 188, 1, 191, 202, 0, 0, 0, 2,
            203, 188, 3, 203, 188, 2);
    }

    private static void jumpsLead() {
        DUE.sentence("Jumps lead to where the BLOCK begins then (its 202)");
        // 0: 16 0, 2: 167 to 5, 4: 191, 5: 188 0, 7: 191
        int[] code = {16, 0, 167, 3, 191, 188, 0, 191};
        StepRewriter x = cheap(code);
        x.rewrite();
        bytes("to its 203, if it has no 202", x, 0, 16, 0, 167, 3, 191, 203, 188, 0, 191);
        x.price(188, 7);
        x.rewrite();
        bytes("to its 202", x, 0, 16, 0, 167, 3, 191, 202, 0, 0, 0, 7, 203, 188, 0, 191);
        code = new int[] {0, 167, 255};
        x = cheap(code);
        x.price(0, 1);
        x.rewrite();
        bytes("back to its 202", x, 0, 202, 0, 0, 0, 1, 0, 167, -6);
    }

    /** So many bytes that make an ARRAY of none, and so become one more when they are REWRITTEN. */
    private static int[] filler(int size) {
        return Files.join(Files.code(16, 0, 188, 0), Files.times(size - 4, 0));
    }

    private static int opposite(int kind) {
        return kind % 2 == 1 ? kind + 1 : kind - 1;
    }

    private static void longs(String what, StepRewriter x, int branches, int others) {
        DUE.is("long 153 to 158, " + what, x.told(0, true, 3), branches);
        DUE.is("168s of other ways, " + what, x.told(0, true, 4), others);
    }

    private static void forwardFits() {
        DUE.sentence("153 to 158 is as it was if its way fits, else the opposite one", "forward");
        for (int kind = 153; kind <= 158; kind++) {
            for (int way = 125; way <= 127; way++) {
                int[] code = Files.join(Files.code(16, 1, kind, way), filler(way - 2), Files.code(191));
                StepRewriter x = cheap(code);
                boolean fits = way + 1 <= 127;
                String what = kind + " by " + (way + 1);
                DUE.is(what, x.rewrite(), code.length + (fits ? 1 : 4));
                bytes(what, x, 2, fits ? Files.code(kind, way + 1, 16, 0, 203)
                    : Files.code(opposite(kind), 5, 168, 0, way + 2, 16, 0, 203));
                longs(what, x, fits ? 0 : 1, 0);
                x.unwrite();
                DUE.is(what + ", unwritten", x.byteAt(0, false, 3), way);
            }
        }
        DUE.sentence("A 167 or 168 is 167 if its way fits, else 168", "forward");
        for (int way = 125; way <= 127; way++) {
            boolean fits = way + 1 <= 127;
            int[] rest = Files.join(filler(way - 2), Files.code(191));
            StepRewriter x = cheap(Files.join(Files.code(167, way), rest));
            StepRewriter y = cheap(Files.join(Files.code(168, 0, way + 1), rest));
            int[] want = fits ? Files.code(167, way + 1, 16) : Files.code(168, 0, way + 2, 16);
            DUE.is("167 by " + (way + 1), x.rewrite(), rest.length + (fits ? 3 : 4));
            DUE.is("168 by " + (way + 1), y.rewrite(), rest.length + (fits ? 3 : 4));
            bytes("167 by " + (way + 1), x, 0, want);
            bytes("168 by " + (way + 1), y, 0, want);
            longs("167 by " + (way + 1), x, 0, fits ? 0 : 1);
            longs("168 by " + (way + 1), y, 0, fits ? 0 : 1);
        }
    }

    private static void backwardFits() {
        DUE.sentence("153 to 158 is as it was if its way fits, else the opposite one", "back");
        for (int kind = 153; kind <= 158; kind++) {
            for (int way = 126; way <= 128; way++) {
                int[] code = Files.join(filler(way - 2), Files.code(16, 1, kind, -way, 191));
                StepRewriter x = cheap(code);
                boolean fits = -way - 1 >= -128;
                String what = kind + " by " + (-way - 1);
                DUE.is(what, x.rewrite(), code.length + (fits ? 1 : 4));
                bytes(what, x, way + 1, fits ? Files.code(kind, -way - 1, 191)
                    : Files.code(opposite(kind), 5, 168, 255, -way - 3, 191));
                longs(what, x, fits ? 0 : 1, 0);
            }
        }
        DUE.sentence("A 167 or 168 is 167 if its way fits, else 168", "back");
        for (int way = 126; way <= 128; way++) {
            boolean fits = -way - 1 >= -128;
            StepRewriter x = cheap(Files.join(filler(way), Files.code(167, -way)));
            StepRewriter y = cheap(Files.join(filler(way), Files.code(168, 255, -way)));
            int[] want = fits ? Files.code(167, -way - 1) : Files.code(168, 255, -way - 1);
            DUE.is("167 by " + (-way - 1), x.rewrite(), way + 1 + want.length);
            DUE.is("168 by " + (-way - 1), y.rewrite(), way + 1 + want.length);
            bytes("167 by " + (-way - 1), x, way + 1, want);
            bytes("168 by " + (-way - 1), y, way + 1, want);
            longs("167 by " + (-way - 1), x, 0, fits ? 0 : 1);
        }
    }

    private static void ownPaymentIsNoWay() {
        DUE.sentence("to the place of this instruction and j", "its own 202 stands ahead of it");
        for (int way = 126; way <= 128; way++) {
            // 0: 191, 1: 168 to 1 + way, by a 202 of its own; as short it has a byte less
            int[] code = Files.join(Files.code(191, 168, 0, way), Files.times(way - 3, 0), Files.code(191));
            StepRewriter x = cheap(code);
            x.price(168, 1);
            boolean fits = way - 1 <= 127;
            DUE.is("forward by " + (way - 1), x.rewrite(), code.length + 5 - (fits ? 1 : 0));
            bytes("forward by " + (way - 1), x, 1, 202, 0, 0, 0, 1, 167, way - 1);
        }
        for (int way = 122; way <= 124; way++) {
            // 0s, 191, a 167 back to 0 by a 202 of its own, which lies in its way
            int[] code = Files.join(Files.times(way - 1, 0), Files.code(191, 167, -way));
            StepRewriter x = cheap(code);
            x.price(167, 1);
            boolean fits = -way - 5 >= -128;
            DUE.is("back by " + (-way - 5), x.rewrite(), code.length + 5 + (fits ? 0 : 1));
            bytes("back by " + (-way - 5), x, way, Files.join(Files.code(202, 0, 0, 0, 1),
                fits ? Files.code(167, -way - 5) : Files.code(168, 255, -way - 5)));
        }
    }

    private static void againAndAgain() {
        DUE.sentence("then, again and again, all whose way does not fit become long, until none does");
        for (int way = 123; way <= 126; way++) {
            // 0: 16 1, 2: 153 over the other one, 4: 16 1, 6: 153 to 133 over the 188 at 131, 8: 0s, 133: 191
            int[] zeros = Files.times(129 - 8, 0);
            int[] code = Files.join(Files.code(16, 1, 153, way, 16, 1, 153, 127), zeros,
                Files.code(16, 0, 188, 0, 191));
            StepRewriter x = cheap(code);
            boolean fits = way + 3 <= 127;
            DUE.is("by a branch to " + (way + 3), x.rewrite(), code.length + 1 + (fits ? 3 : 6));
            longs("by a branch to " + (way + 3), x, fits ? 1 : 2, 0);
            bytes("by a branch to " + (way + 3), x, 2, fits ? Files.code(153, way + 3, 16, 1, 154, 5, 168, 0, 129)
                : Files.code(154, 5, 168, 0, way + 4, 16, 1, 154, 5, 168, 0, 129));
        }
        for (int way = 125; way <= 127; way++) {
            // 0: 16 1, 2: 153 over the other one, 4: 0s, 8: 167 to 135 over the 188 at 133, 10: 0s, 135: 191
            int[] code = Files.join(Files.code(16, 1, 153, way, 0, 0, 0, 0, 167, 127), Files.times(121, 0),
                Files.code(16, 0, 188, 0, 191));
            StepRewriter x = cheap(code);
            boolean fits = way + 1 <= 127;
            DUE.is("by a jump to " + (way + 1), x.rewrite(), code.length + 1 + (fits ? 1 : 4));
            longs("by a jump to " + (way + 1), x, fits ? 0 : 1, 1);
        }
    }

    private static void untilNoneDoes() {
        DUE.sentence("until none does; long ones stay long");
        // eighteen times: 16 1, 153 over the next 153 alone; only the last one can go over a 188
        int[] one = Files.join(Files.code(16, 1, 153, 127), Files.times(96, 0));
        int[] all = Files.times(18, one);
        StepRewriter x = cheap(Files.join(all, Files.times(29, 0), Files.code(191)));
        DUE.is("all fit", x.rewrite(), 1830);
        longs("all fit", x, 0, 0);
        x = cheap(Files.join(all, filler(29), Files.code(191)));
        DUE.is("each makes the one before it long", x.rewrite(), 1831 + 18 * 3);
        longs("each makes the one before it long", x, 18, 0);
        for (int i = 0; i < 18; i++) {
            // its own 168 goes over the one behind it, too, or over the 203
            bytes("branch " + i, x, 103 * i + 2, 154, 5, 168, 0, i < 17 ? 131 : 129);
        }
        DUE.is("unwrite", x.unwrite(), 1830);
        longs("as REWRITTEN", x, 18, 0);
    }

    private static void handlersMove() {
        // 0: 0, 1: 16 0, 3: 188 0, 5: 191, 6: 188 1, 8: 191, 9: 0, 10: 172
        int[] code = {0, 16, 0, 188, 0, 191, 188, 1, 191, 0, 172};
        int[][] handlers = {{0, 1, 6, 0}, {1, 3, 10, 1}, {3, 5, 6, 2}, {5, 6, 10, 3}, {6, 8, 10, 4}, {8, 9, 6, 0},
            {9, 10, 10, 1}, {10, 11, 6, 2}};
        int[] places = {0, 1, 3, 5, 6, 8, 9, 10, 11};
        DUE.sentence("FROM, TO, AT become the places of what stood there", "without 202s");
        moved(code, handlers, places, new int[] {0, 1, 3, 6, 7, 10, 11, 12, 13}, new int[] {});
        DUE.sentence("(of a BLOCK's beginning its 202's, if it has one; of another 188 its 203's; the end the end)");
        moved(code, handlers, places, new int[] {0, 6, 8, 11, 12, 20, 21, 27, 28}, new int[] {0, 188});
        moved(code, handlers, places, new int[] {0, 1, 3, 6, 7, 10, 11, 12, 18}, new int[] {172});
        moved(code, handlers, places, new int[] {0, 6, 8, 11, 12, 20, 21, 22, 23}, new int[] {191});
    }

    private static void moved(int[] code, int[][] handlers, int[] places, int[] want, int[] paid) {
        StepRewriter x = Files.loaded(Files.file(Files.method(0, 0, code, handlers)));
        for (int kind : KINDS) {
            x.price(kind, 0);
        }
        for (int kind : paid) {
            x.price(kind, 1);
        }
        DUE.is("the end", x.rewrite(), want[want.length - 1]);
        for (int k = 0; k < handlers.length; k++) {
            for (int what = 0; what < 3; what++) {
                int i = java.util.Arrays.binarySearch(places, handlers[k][what]);
                DUE.is("HANDLER " + k + ", " + what, x.handler(0, true, k, what), want[i]);
                DUE.is("HANDLER " + k + " in the FILE, " + what, x.handler(0, false, k, what), handlers[k][what]);
            }
            DUE.is("KIND of HANDLER " + k, x.handler(0, true, k, 3), handlers[k][3]);
        }
    }

    private static void greatestLength() {
        DUE.sentence("how many bytes of CODE (2, 1 .. 2000)", "as REWRITTEN and unwritten");
        for (int n = 1998; n <= 2000; n++) {
            // 0: 168 to the last, 3: 0s, three 172s (the third one is AT), the last: 191
            int[] code = Files.join(Files.code(168, n - 1 >> 8, n - 1 & 255), Files.times(n - 7, 0),
                Files.code(172, 172, 172, 191));
            int[] handler = Files.handler(n - 1, n, n - 2, 2);
            StepRewriter x = Files.loaded(Files.file(Files.method(0, 0, code, handler)));
            // they begin at 0, 3, the second and the third 172, and the last
            DUE.is("BLOCKS", x.told(0, false, 1), 5);
            DUE.is("the last BLOCK", x.block(0, 4, 0), n - 1);
            DUE.is("rewrite", x.rewrite(), n + 25);
            DUE.is("its 168, high", x.byteAt(0, true, 6), n + 14 >> 8);
            DUE.is("its 168, low", x.byteAt(0, true, 7), n + 14 & 255);
            int[] want = {n + 19, n + 25, n + 13, 2};
            for (int what = 0; what < 4; what++) {
                DUE.is("HANDLER's " + what, x.handler(0, true, 0, what), want[what]);
            }
            run(x, n);
            DUE.is("unwrite", x.unwrite(), n);
            for (int what = 0; what < 4; what++) {
                DUE.is("HANDLER's " + what + ", unwritten", x.handler(0, false, 0, what), handler[what]);
            }
        }
    }

    private static void run(StepRewriter x, int n) {
        DUE.is("run of " + n, x.run(0, 0, 0, 2), 2);
        DUE.is("its KIND", x.answer(), 4);
        DUE.is("its steps", x.steps(), 2);
    }

    private static void rewrittenAnew() {
        DUE.sentence("The FILE is REWRITTEN by the PRICES now");
        // 0: 16 1, 2: 153 to 129, long by the 203, 4: 167 to 130, that just fits, 130: 0, 131: 191, 132: 172 (AT)
        int[] code = Files.join(Files.code(16, 1, 153, 127, 167, 126), filler(124), Files.code(0, 191, 172));
        StepRewriter x = Files.loaded(Files.file(Files.method(1, 1, code, Files.handler(0, 2, 132, 0))));
        for (int kind : KINDS) {
            x.price(kind, 0);
        }
        for (int turn = 0; turn < 3; turn++) {
            DUE.is("rewrite", x.rewrite(), code.length + 1 + 3);
            longs("again", x, 1, 0);
            DUE.is("BLOCKS", x.told(0, true, 1), 6);
            DUE.is("HANDLERS", x.told(0, true, 2), 1);
            x.price(167, turn);
            DUE.is("SUM now", x.block(0, 1, 1), turn);
            DUE.is("still the same", x.told(0, true, 0), code.length + 4);
            DUE.is("unwrite", x.unwrite(), code.length);
            x.price(167, 0);
        }
    }

    /** Of a METHOD of 6 bytes, n BLOCKS of 6 and z of 7 bytes when it is REWRITTEN. */
    private static int[] sized(int n, int z) {
        return Files.method(0, 0, Files.join(Files.code(191), Files.times(n, 191), Files.times(z, 0, 191)));
    }

    private static void tooBig() {
        DUE.sentence("More than 4000 bytes of CODE: the METHOD is too big");
        // 6 + 6 n + 7 z bytes
        int[][] sizes = {{3999, 662, 3}, {4000, 661, 4}, {4001, 660, 5}, {4002, 666, 0}};
        for (int[] size : sizes) {
            int n = size[1];
            int z = size[2];
            StepRewriter x = Files.loaded(Files.file(sized(n, z)));
            boolean right = size[0] <= 4000;
            DUE.is(size[0] + " bytes", x.rewrite(), right ? size[0] : -10);
            DUE.is(size[0] + " bytes told", x.told(0, true, 0), right ? size[0] : STATE);
            DUE.is("the last byte", x.byteAt(0, true, size[0] - 1), right ? 191 : STATE);
            DUE.is("none behind it", x.byteAt(0, true, size[0]), right ? BAD : STATE);
            DUE.is("it runs", x.run(0, 0, 0, 10), right ? 2 : STATE);
            DUE.is("it is unwritten", x.unwrite(), right ? 1 + n + 2 * z : STATE);
        }
        int[] most = sized(600, 0);
        StepRewriter x = Files.loaded(Files.file(most, most, most, most, most, most, most, most));
        DUE.is("all METHODS together may be more", x.rewrite(), 8 * 3606);
        DUE.is("the last byte of the last", x.byteAt(7, true, 3605), 191);
        DUE.is("its 202", x.byteAt(7, true, 3600), 202);
    }

    private static void firstTooBig() {
        DUE.sentence("-10 less the first METHOD that is too big (then what was REWRITTEN before is gone)");
        for (int m = 0; m < 8; m++) {
            int[][] methods = new int[8][];
            for (int i = 0; i < 8; i++) {
                methods[i] = i < m ? sized(0, 0) : sized(666, 0);
            }
            StepRewriter x = Files.loaded(Files.file(methods));
            DUE.is("METHOD " + m, x.rewrite(), -10 - m);
            x.price(191, 0);
            DUE.is("it fits without a price", x.rewrite() > 0 ? 1 : 0, 1);
            DUE.is("it is REWRITTEN", x.told(m, true, 0), 667);
            x.price(191, 1);
            DUE.is("METHOD " + m + " again", x.rewrite(), -10 - m);
            DUE.is("told", x.told(0, true, 0), STATE);
            DUE.is("byteAt", x.byteAt(0, true, 0), STATE);
            DUE.is("handler", x.handler(0, true, 0, 0), STATE);
            DUE.is("run", x.run(0, 0, 0, 10), STATE);
            DUE.is("unwrite", x.unwrite(), STATE);
            DUE.is("the FILE is there", x.told(m, false, 0), 667);
            DUE.is("and its BLOCKS", x.block(m, 666, 1), 1);
        }
    }

    private static void unwriteFits() {
        DUE.sentence("its jumps short where they fit (as REWRITTEN of nothing PAID)");
        for (int way = 127; way <= 130; way++) {
            int[] rest = Files.join(Files.times(way - 3, 0), Files.code(191));
            StepRewriter x = Files.rewritten(method(Files.join(Files.code(168, 0, way), rest)));
            boolean fits = way - 1 <= 127;
            DUE.is("168 by " + way, x.unwrite(), rest.length + (fits ? 2 : 3));
            DUE.is("its kind", x.byteAt(0, false, 0), fits ? 167 : 168);
            DUE.is("its way", x.byteAt(0, false, fits ? 1 : 2), fits ? way - 1 : way);
            DUE.is("168s", x.told(0, false, 4), fits ? 0 : 1);
        }
        for (int way = 127; way <= 130; way++) {
            StepRewriter x = Files.rewritten(method(Files.join(Files.times(way, 0), Files.code(168, 255, -way))));
            boolean fits = way <= 128;
            DUE.is("168 by " + -way, x.unwrite(), way + (fits ? 2 : 3));
            DUE.is("its kind", x.byteAt(0, false, way), fits ? 167 : 168);
            DUE.is("its way", x.byteAt(0, false, way + (fits ? 1 : 2)), -way & 255);
            DUE.is("168s", x.told(0, false, 4), fits ? 0 : 1);
        }
    }

    private static void unwriteMakesShort() {
        DUE.sentence("without 202, 203, its jumps short where they fit");
        int[] handler = {6, 10, 12, 3};
        for (int kind = 153; kind <= 158; kind++) {
            // 0: 21 0, 2: to 129, 4: 16 1, 6: 188 2, 8: 0s, 12: 0s (AT), 129: 191
            int[] code = Files.join(Files.code(21, 0, kind, 127, 16, 1, 188, 2), Files.times(3, 0), Files.code(191),
                Files.code(87), Files.times(116, 0), Files.code(191));
            StepRewriter x = Files.loaded(Files.file(Files.method(1, 1, code, handler)));
            x.rewrite();
            longs(kind + " is long", x, 1, 0);
            DUE.is("unwrite", x.unwrite(), code.length);
            for (int i = 0; i < code.length; i++) {
                DUE.is(kind + ", byte " + i, x.byteAt(0, false, i), code[i] & 255);
            }
            for (int what = 0; what < 4; what++) {
                DUE.is(kind + ", HANDLER's " + what, x.handler(0, false, 0, what), handler[what]);
            }
            longs(kind + " stays long as REWRITTEN", x, 1, 0);
            DUE.is("the FILE's long ones", x.told(0, false, 3), 0);
            DUE.is("the FILE's 168s", x.told(0, false, 4), 0);
        }
    }
}
