/**
 * "A FILE is" and "A FILE is RIGHT" up to its jumps and what is left over (promises 2 and 3): each
 * sentence with a least, a greatest or a missing thing, at the boundary and one beyond it on either side.
 */
public final class FormEdgeTest {
    private static final int STATE = StepRewriter.STATE;
    private static final int[] JUMPS = {153, 154, 155, 156, 157, 158, 167, 168};
    private static final int[] OF_ARRAYS = {188, 190, 46, 79};
    /** The shortest METHOD: it has no PARAMETERS, no LOCALS, 191 alone and no HANDLERS. */
    private static final int[] LEAST = Files.method(0, 0, Files.code(191));
    private static final Due DUE = new Due("FormEdgeTest");

    public static void main(String[] args) {
        methods();
        parameters();
        locals();
        length();
        handlersNumber();
        highestFirst();
        allBytesThere();
        leftOver();
        known();
        whole();
        localThere();
        methodThere();
        arrayThere();
        handlerFrom();
        handlerTo();
        handlerAt();
        handlerKind();
        jumpsToBeginnings();
        jumpsFar();
        jumpsTold();
        order();
        DUE.end();
    }

    /** The place at which it is not RIGHT is due, or -1: it is RIGHT. */
    private static void load(String what, int place, int... bytes) {
        StepRewriter x = new StepRewriter();
        DUE.is("load, " + what, Files.load(x, bytes), place < 0 ? bytes[0] : -10 - place);
        DUE.is("its FILE, " + what, x.told(0, false, 0) == STATE ? 0 : 1, place < 0 ? 1 : 0);
    }

    private static int[] some(int n, int[] method) {
        int[][] all = new int[n][];
        java.util.Arrays.fill(all, method);
        return Files.file(all);
    }

    private static void methods() {
        DUE.sentence("a byte, how many METHODS (1 .. 8)");
        for (int n = 0; n <= 10; n++) {
            load(n + " METHODS", n >= 1 && n <= 8 ? -1 : 0, some(n, LEAST));
        }
        load("0 alone", 0, 0);
        load("9 alone", 0, 9);
        load("128", 0, 128);
        load("255", 0, 255);
        load("nothing at all", 0);
    }

    private static void parameters() {
        DUE.sentence("how many PARAMETERS (a byte, 0 .. 4)");
        for (int p : new int[] {0, 1, 3, 4, 5, 6, 128, 255}) {
            int[] method = Files.method(p, 20, Files.code(191));
            load(p + " PARAMETERS", p <= 4 ? -1 : 1, Files.file(method));
            load(p + " PARAMETERS of METHOD 1", p <= 4 ? -1 : 7, Files.file(LEAST, method));
        }
        load("5 PARAMETERS and no byte more", 1, 1, 5);
        load("4 PARAMETERS and no byte more", 2, 1, 4);
    }

    private static void locals() {
        DUE.sentence("how many LOCALS (a byte, PARAMETERS .. 20)");
        for (int p = 0; p <= 4; p++) {
            for (int l : new int[] {p - 1, p, p + 1, 19, 20, 21, 22, 128, 255}) {
                boolean right = l >= p && l <= 20;
                if (l >= 0) {
                    int[] method = Files.method(p, l, Files.code(191));
                    load(p + " and " + l + " LOCALS", right ? -1 : 2, Files.file(method));
                    load("METHOD 1, " + p + " and " + l + " LOCALS", right ? -1 : 8, Files.file(LEAST, method));
                }
            }
        }
        load("21 LOCALS and no byte more", 2, 1, 0, 21);
    }

    private static void length() {
        DUE.sentence("how many bytes of CODE (2, 1 .. 2000)");
        for (int n : new int[] {0, 1, 2, 255, 256, 257, 1999, 2000, 2001, 2002, 4096}) {
            int[] method = Files.method(0, 0, Files.times(n, 191));
            load(n + " bytes", n >= 1 && n <= 2000 ? -1 : 3, Files.file(method));
            load(n + " bytes of METHOD 1", n >= 1 && n <= 2000 ? -1 : 9, Files.file(LEAST, method));
        }
        load("2001 told and none there", 3, 1, 0, 0, 7, 209);
        load("2000 told and none there", 5, 1, 0, 0, 7, 208);
        load("32768 told", 3, 1, 0, 0, 128, 0);
        load("65535 told", 3, 1, 0, 0, 255, 255);
        load("0 told and no byte more", 3, 1, 0, 0, 0, 0);
        load("1 told and no byte more", 5, 1, 0, 0, 0, 1);
    }

    private static void handlersNumber() {
        DUE.sentence("how many HANDLERS (a byte, 0 .. 8)");
        int[] code = {191, 172};
        for (int n = 0; n <= 10; n++) {
            int[][] handlers = new int[n][];
            java.util.Arrays.fill(handlers, Files.handler(0, 1, 1, 0));
            int[] method = Files.method(0, 0, code, handlers);
            load(n + " HANDLERS", n <= 8 ? -1 : 7, Files.file(method));
            load(n + " HANDLERS of METHOD 1", n <= 8 ? -1 : 13, Files.file(LEAST, method));
        }
        load("9 HANDLERS and no byte more", 6, 1, 0, 0, 0, 1, 191, 9);
        load("8 HANDLERS and no byte more", 7, 1, 0, 0, 0, 1, 191, 8);
        load("255 HANDLERS", 6, 1, 0, 0, 0, 1, 191, 255);
    }

    private static void highestFirst() {
        DUE.sentence("Numbers of two or four bytes have the highest first");
        StepRewriter x = Files.loaded(Files.join(Files.code(1, 0, 0, 1, 2), Files.times(258, 191), Files.code(0)));
        DUE.is("1 2 is 258", x.told(0, false, 0), 258);
        int[] code = Files.join(Files.times(600, 191), Files.code(172));
        x = Files.loaded(Files.file(Files.method(0, 0, code, Files.handler(257, 514, 600, 3))));
        int[] want = {257, 514, 600, 3};
        for (int what = 0; what < 4; what++) {
            DUE.is("HANDLER's number " + what, x.handler(0, false, 0, what), want[what]);
        }
    }

    /** Two METHODS, the first one with two HANDLERS, the second one with one. */
    private static int[] two() {
        int[] handler = Files.handler(0, 2, 2, 1);
        int[] code = {16, 5, 172};
        return Files.file(Files.method(1, 2, code, handler, handler), Files.method(0, 0, code, handler));
    }

    private static void allBytesThere() {
        DUE.sentence("and whether all its bytes are there (the FILE's length)");
        int[] file = two();
        load("all bytes", -1, file);
        for (int n = 0; n < file.length; n++) {
            load(n + " bytes of " + file.length, n, Files.first(file, n));
        }
    }

    private static void leftOver() {
        DUE.sentence("behind all METHODS no byte is left over (the first such)");
        int[] file = two();
        for (int more = 1; more <= 9; more++) {
            load(more + " bytes more", file.length, Files.join(file, Files.times(more, 191)));
            load(more + " 0s more", file.length, Files.join(file, Files.times(more, 0)));
        }
        load("a METHOD more than is told", 7, Files.with(some(2, LEAST), 0, 1));
        load("a METHOD less than is told", 13, Files.with(some(2, LEAST), 0, 3));
    }

    private static void known() {
        DUE.sentence("each instruction a known one (not 202, 203)");
        for (int b : new int[] {201, 202, 203, 204, 1, 15, 18, 20, 22, 45, 47, 53, 55, 78, 80, 86, 88, 90, 95, 97, 99,
            101, 103, 105, 107, 109, 111, 113, 115, 117, 125, 127, 129, 131, 152, 159, 166, 169, 171, 173, 183, 185,
            187, 189, 192, 255}) {
            load("byte " + b + " alone", 5, Files.file(Files.method(4, 20, Files.code(b, 0, 0, 0, 0, 191))));
            load("byte " + b + " that one doesn't come to", 6, Files.file(Files.method(4, 20, Files.code(191, b, 0))));
        }
    }

    private static void whole() {
        DUE.sentence("whole");
        int[][] all = {{16, 0}, {17, 0, 0}, {21, 0}, {54, 0}, {153, 0}, {154, 0}, {155, 0}, {156, 0}, {157, 0},
            {158, 0}, {167, 0}, {168, 0, 0}, {184, 0}, {188, 0}, {190, 0}, {46, 0}, {79, 0}};
        for (int[] one : all) {
            int[] code = Files.join(Files.code(191), one);
            load(one[0] + " whole", -1, Files.file(Files.method(1, 1, code)));
            for (int n = 1; n < one.length; n++) {
                int[] part = Files.first(code, 1 + n);
                load(n + " bytes of " + one[0], 6, Files.file(Files.method(1, 1, part)));
            }
        }
    }

    private static void localThere() {
        DUE.sentence("its LOCAL, METHOD, ARRAY there (the instruction)", "LOCAL");
        for (int l : new int[] {0, 1, 2, 19, 20}) {
            for (int n : new int[] {l - 2, l - 1, l, l + 1, 127, 128, 255}) {
                for (int kind : new int[] {21, 54}) {
                    if (n >= 0) {
                        int[] code = {191, kind, n};
                        load(kind + " " + n + " of " + l, n < l ? -1 : 6, Files.file(Files.method(0, l, code)));
                    }
                }
            }
        }
    }

    private static void methodThere() {
        DUE.sentence("its LOCAL, METHOD, ARRAY there (the instruction)", "METHOD");
        for (int count = 1; count <= 8; count++) {
            for (int m : new int[] {0, count - 1, count, count + 1, 128, 255}) {
                int[] file = some(count, Files.method(0, 0, Files.code(184, m, 191)));
                load("184 " + m + " of " + count, m < count ? -1 : 5, file);
            }
        }
    }

    private static void arrayThere() {
        DUE.sentence("its LOCAL, METHOD, ARRAY there (the instruction)", "ARRAY");
        for (int kind : OF_ARRAYS) {
            for (int a : new int[] {0, 1, 2, 3, 4, 5, 128, 255}) {
                load(kind + " " + a, a < 4 ? -1 : 6, Files.file(Files.method(0, 0, Files.code(191, kind, a))));
            }
        }
    }

    /** 0: 16 5, 2: 17 0 5, 5: 87, 6: 172, 7: 172; HANDLERS stand at 14. */
    private static int[] handled(int from, int to, int at, int kind) {
        int[] code = {16, 5, 17, 0, 5, 87, 172, 172};
        return Files.file(Files.method(0, 0, code, Files.handler(from, to, at, kind)));
    }

    private static boolean begins(int place) {
        return place == 0 || place == 2 || place == 5 || place == 6 || place == 7;
    }

    private static void handlerFrom() {
        DUE.sentence("FROM and AT are beginnings of instructions", "FROM");
        for (int from = 0; from <= 7; from++) {
            load("FROM " + from, begins(from) ? -1 : 14, handled(from, 8, 7, 0));
        }
        load("FROM the CODE's length", 14, handled(8, 9, 7, 0));
        load("FROM and TO the CODE's length", 14, handled(8, 8, 7, 0));
        load("FROM 65535", 14, handled(65535, 8, 7, 0));
        load("FROM 256", 14, handled(256, 8, 7, 0));
    }

    private static void handlerTo() {
        DUE.sentence("TO is above FROM and one, or the CODE's length");
        for (int from : new int[] {0, 2, 5, 6, 7}) {
            for (int to = 0; to <= 10; to++) {
                boolean right = to > from && (begins(to) || to == 8);
                load("FROM " + from + " TO " + to, right ? -1 : 14, handled(from, to, 7, 0));
            }
            load("TO 65535", 14, handled(from, 65535, 7, 0));
            load("TO 264", 14, handled(from, 264, 7, 0));
        }
    }

    private static void handlerAt() {
        DUE.sentence("FROM and AT are beginnings of instructions", "AT");
        for (int at = 1; at <= 9; at++) {
            // AT 2 and 6 have the depth 1 as they have by going on; 5 has 2 by going on and is not right by its stack
            int place = !begins(at) ? 14 : at == 5 ? 10 : -1;
            load("AT " + at, place, handled(0, 8, at, 0));
        }
        load("AT 65535", 14, handled(0, 8, 65535, 0));
        load("AT 263", 14, handled(0, 8, 263, 0));
    }

    private static void handlerKind() {
        DUE.sentence("a KIND (a byte, 0 .. 4)");
        for (int kind : new int[] {0, 1, 2, 3, 4, 5, 6, 128, 255}) {
            load("KIND " + kind, kind <= 4 ? -1 : 14, handled(0, 8, 7, kind));
        }
        int[] code = {16, 5, 172, 172};
        int[] good = Files.handler(0, 2, 3, 4);
        for (int k = 0; k < 8; k++) {
            int[][] handlers = new int[8][];
            java.util.Arrays.fill(handlers, good);
            handlers[k] = Files.handler(0, 2, 3, 5);
            load("KIND 5 of HANDLER " + k, 10 + 7 * k, Files.file(Files.method(0, 0, code, handlers)));
        }
    }

    private static int[] jump(int kind, int way) {
        return kind == 168 ? Files.code(168, way >> 8 & 255, way & 255) : Files.code(kind, way & 255);
    }

    private static void jumpsToBeginnings() {
        DUE.sentence("then its jumps, each to the beginning of an instruction (the jump)");
        for (int kind : JUMPS) {
            // 0: 191, 1: 17 0 5, 4: the jump, 6 or 7: 17 0 5, then 191, that one doesn't come to
            int size = kind == 168 ? 3 : 2;
            int end = 4 + size + 4;
            for (int to = -2; to <= end + 2; to++) {
                boolean right = to == 0 || to == 1 || to == 4 || to == 4 + size || to == end - 1;
                int[] code = Files.join(Files.code(191, 17, 0, 5), jump(kind, to - 4), Files.code(17, 0, 5, 191));
                load(kind + " to " + to, right ? -1 : 9, Files.file(Files.method(0, 0, code)));
            }
        }
    }

    private static void jumpsFar() {
        DUE.sentence("168 j k: likewise, j k two bytes with their sign", "and j, a byte with its sign");
        int[] pairs = Files.times(60, 17, 0, 0);
        for (int kind : JUMPS) {
            int size = kind == 168 ? 3 : 2;
            for (int pad = 1; pad <= 3; pad++) {
                for (int way : new int[] {-128, -127, -126}) {
                    boolean right = (180 + way) % 3 == 0;
                    int[] code = Files.join(Files.times(pad, 191), pairs, jump(kind, way));
                    load(kind + " by " + way, right ? -1 : 5 + pad + 180, Files.file(Files.method(0, 0, code)));
                }
                for (int way : new int[] {125, 126, 127}) {
                    boolean right = (way - size - pad) % 3 == 0;
                    int[] code = Files.join(Files.code(191), jump(kind, way), Files.times(pad, 191), pairs);
                    load(kind + " by " + way, right ? -1 : 6, Files.file(Files.method(0, 0, code)));
                }
            }
        }
        for (int way : new int[] {-32768, -32767, -1001, 1000, 1001, 32766, 32767}) {
            int[] code = Files.join(Files.times(1000, 191), jump(168, way), Files.times(997, 191));
            load("168 by " + way, 1005, Files.file(Files.method(0, 0, code)));
        }
        for (int way : new int[] {-1000, -999, -257, -256, -255, 255, 256, 257, 998, 999}) {
            int[] code = Files.join(Files.times(1000, 191), jump(168, way), Files.times(997, 191));
            load("168 by " + way, -1, Files.file(Files.method(0, 0, code)));
        }
    }

    private static void jumpsTold() {
        DUE.sentence("then its jumps, each to the beginning of an instruction (the jump)", "the first of them");
        int[] code = {191, 167, 1, 167, 1};
        load("both", 6, Files.file(Files.method(0, 0, code)));
        load("the second", 8, Files.file(Files.method(0, 0, Files.code(191, 167, 2, 167, 1))));
        load("of METHOD 1", 14, Files.file(LEAST, Files.method(0, 0, Files.code(191, 0, 0, 167, 1))));
    }

    private static void order() {
        DUE.sentence("(the first place in the FILE, from 0 on, at which it is not, in this order)");
        int[] handler = Files.handler(0, 1, 1, 5);
        int[] right = Files.handler(0, 2, 2, 4);
        int[] jump = Files.code(167, 1, 191);
        load("the number of METHODS is before all", 0, Files.with(some(2, LEAST), 0, 9));
        load("LOCALS are before the bytes of CODE", 2, 1, 0, 21, 0, 0, 0);
        load("numbers are before CODE", 8, Files.with(Files.file(Files.method(0, 0, Files.code(1, 1, 1))), 8, 9));
        load("CODE is before HANDLERS", 7, Files.file(Files.method(0, 0, Files.code(167, 1, 1), handler)));
        load("HANDLERS are before jumps", 9, Files.file(Files.method(0, 0, jump, handler)));
        load("jumps are before the next METHOD's numbers", 5,
            Files.file(Files.method(0, 0, jump, right), Files.method(5, 5, jump)));
        int[] unknown = Files.method(0, 0, Files.code(191, 191, 191, 191, 1));
        load("the next METHOD is before what is left over", 15, Files.join(Files.file(LEAST, unknown), Files.code(0)));
        int[] empty = Files.method(0, 0, Files.code(87));
        load("what is left over is before the stack", 7, Files.join(Files.file(empty), Files.code(0)));
        load("the stack of METHOD 0 is before that of METHOD 1", 5, some(2, Files.method(0, 0, Files.code(87))));
        load("the stack of METHOD 1", 11, Files.file(LEAST, Files.method(0, 0, Files.code(87))));
    }
}
