/**
 * The sentences of "What it is" and "Terms" that name no boundary, in the document's order: plain uses, with
 * something below on the stack where a sentence tells what goes and what stays. (Those that name one are in
 * the EdgeTests.)
 */
public final class TermsTest {
    private static final int ENDED = Ask.ENDED, STOPPED = Ask.STOPPED, THROWN = Ask.THROWN;
    private static final Due DUE = new Due("TermsTest");
    private static final Ask ASK = new Ask(DUE);

    public static void main(String[] args) {
        whatItIs();
        fiveHundredAndTwelve();
        whatAFileIs();
        oneBehindTheOther();
        nothing();
        locals();
        ofTwo();
        negated();
        branchesLead();
        jumpsLead();
        methodEnds();
        called();
        makes();
        hasAndFetches();
        thrown();
        rewrittenAlone();
        numbersAtTheirPlaces();
        codeFromPlaceZero();
        handlersPlace();
        stacksInOrder();
        sums();
        opposites();
        shortAtFirst();
        counted();
        DUE.end();
    }

    private static void whatItIs() {
        DUE.sentence("Files of code rewritten so that they pay for what they do: blocks found, sums paid at their "
            + "beginnings, makings paid by size ahead, jumps made long where they must be; run as rewritten, and "
            + "unwritten again.");
        // 0: 21 0, 2: 153 to 31, 4: 21 0, 6: 188 1, 8: 190 1, 10: 172 and twenty more, 31: 16 9, 33: 172
        int[] code = Files.join(Files.code(21, 0, 153, 29, 21, 0, 188, 1, 190, 1, 172), Files.times(20, 172),
            Files.code(16, 9, 172));
        StepRewriter x = Files.loaded(Files.alone(code));
        DUE.is("blocks found", x.told(0, false, 1), 23);
        DUE.is("bytes", x.rewrite(), 153);
        int[] want = {202, 0, 0, 0, 2, 21, 0, 154, 5, 168, 0, 136, 202, 0, 0, 0, 4, 21, 0, 203, 188, 1, 190, 1, 172};
        for (int i = 0; i < want.length; i++) {
            DUE.is("byte " + i, x.byteAt(0, true, i), want[i]);
        }
        DUE.is("a jump made long", x.told(0, true, 3), 1);
        ASK.run("a making paid by its size", x, Ask.told(0, 3, 0, 100), ENDED, 3, 2 + 4 + 3, 6);
        ASK.run("by the long one", x, Ask.told(0, 0, 0, 100), ENDED, 9, 2 + 2, 5);
        DUE.is("unwritten again", x.unwrite(), 34);
        ASK.bytes("unwritten again", x, 0, false, code);
    }

    private static void fiveHundredAndTwelve() {
        DUE.sentence("An object is used for at most 512 calls after it has been made");
        StepRewriter x = new StepRewriter();
        x.feed(0x0102030006150015L, 8);
        x.feed(0x0160AC00L, 4);
        DUE.is("the third call", x.load(), 1);
        DUE.is("the fourth call", x.rewrite(), 11);
        int calls = 4;
        for (int v = 0; calls + 4 <= 512; v++) {
            ASK.run("behind call " + calls, x, Ask.told(0, v, 1000, 100), ENDED, 1000 + v, 4, 4);
            calls += 4;
        }
        DUE.is("calls", calls, 512);
    }

    private static void whatAFileIs() {
        DUE.sentence("these; how many HANDLERS (a byte, 0 .. 8), each FROM, TO, AT (2 bytes each) and a KIND");
        int[] far = Files.join(Files.code(16, 1, 172), Files.times(697, 191), Files.code(172, 172));
        int[] bytes = Files.join(Files.code(3),
            Files.code(0, 0, 0, 3, 16, 5, 172, 0),
            Files.code(2, 7, 2, 190), far, Files.code(2, 0, 0, 1, 44, 2, 188, 0, 1, 45, 2, 190, 2, 189, 4),
            Files.code(4, 4, 0, 2, 21, 3, 0));
        StepRewriter x = new StepRewriter();
        DUE.is("21 3 goes on past the end", Files.load(x, bytes), -10 - (bytes.length - 3));
        bytes = Files.with(bytes, bytes.length - 3, 0);
        bytes = Files.with(bytes, bytes.length - 2, 191);
        DUE.is("load", Files.load(x, bytes), 3);
        ASK.bytes("METHOD 0", x, 0, false, 16, 5, 172);
        ASK.bytes("METHOD 1", x, 1, false, far);
        ASK.bytes("METHOD 2", x, 2, false, 0, 191);
        int[] handlers = {0, 2, 0};
        for (int m = 0; m < 3; m++) {
            DUE.is("HANDLERS of METHOD " + m, x.told(m, false, 2), handlers[m]);
        }
        ASK.handler("METHOD 1", x, 1, false, 0, 0, 300, 700, 0);
        ASK.handler("METHOD 1", x, 1, false, 1, 301, 702, 701, 4);
    }

    private static void oneBehindTheOther() {
        DUE.sentence("CODE is instructions, one behind the other");
        int[] code = {16, 7, 17, 1, 0, 21, 0, 100, 104, 54, 2, 21, 2, 116, 172};
        ASK.ends("7 * (256 - x), less than 0", 56, 0, -1400, code);
        StepRewriter x = Files.rewritten(Files.alone(code));
        ASK.bytes("as it is in the FILE", x, 0, false, code);
        ASK.bytes("REWRITTEN", x, 0, true, Files.join(Files.code(202, 0, 0, 0, 9), code));
        ASK.run("each is done once", x, Ask.told(0, 56, 0, 9), ENDED, -1400, 9, 9);
    }

    private static void nothing() {
        DUE.sentence("A letter is a byte that follows: 0 nothing");
        StepRewriter x = Files.rewritten(Files.alone(0, 21, 0, 0, 0, 21, 1, 0, 100, 0, 172));
        ASK.run("0s between", x, Ask.told(0, 9, 4, 100), ENDED, 5, 9, 9);
        DUE.is("no depth by it", x.told(0, false, 5), 2);
        // the byte that follows is no instruction, though it could be one
        ASK.ends("172 follows", 0, 0, 172 - 256, 16, 172, 172);
        ASK.ends("191 and 172 follow", 0, 0, (191 - 256) * 256 + 172, 17, 191, 172, 172);
    }

    private static void locals() {
        DUE.sentence("21 n: LOCAL n");
        int[] keep = {};
        for (int n = 0; n < 20; n++) {
            keep = Files.join(keep, Files.code(16, 3 * n + 1, 54, n));
        }
        for (int n = 0; n < 20; n++) {
            int[] code = Files.join(keep, Files.code(16, 100, 21, n, 21, n, 96, 100, 172));
            StepRewriter x = Files.rewritten(Files.file(Files.method(4, 20, code)));
            ASK.run("LOCAL " + n, x, Ask.told(0, 1, 2, 100), ENDED, 100 - 2 * (3 * n + 1), 46, 46);
        }
    }

    /** With 1000 below the two: what is left of it less what they become. */
    private static void two(int kind, int x, int y, int v) {
        ASK.ends(x + " " + kind + " " + y, x, y, 1000 - v, 17, 3, 232, 21, 0, 21, 1, kind, 100, 172);
    }

    private static void ofTwo() {
        DUE.sentence("96 + , 100 -, 104 *, 108 /");
        two(96, 20, 6, 26);
        two(100, 20, 6, 14);
        two(100, 6, 20, -14);
        two(104, 20, -6, -120);
        two(108, 20, 6, 3);
        two(108, 6, 20, 0);
        two(108, -20, 6, -3);
        DUE.sentence("112 % (likewise), 126 and, 128 or, 130 xor of the two on top (the lower one first), which go");
        two(112, 20, 6, 2);
        two(112, 6, 20, 6);
        two(112, -20, 6, -2);
        two(112, 20, -6, 2);
        two(126, 20, 6, 4);
        two(128, 20, 6, 22);
        two(130, 20, 6, 18);
        two(126, -1, 77, 77);
        two(128, -8, 7, -1);
        two(130, -1, 77, -78);
    }

    private static void negated() {
        DUE.sentence("116 the top becomes - it");
        ASK.ends("of 5, with 7 below", 7, 5, 2, 21, 0, 21, 1, 116, 96, 172);
        ASK.ends("of -5, with 7 below", 7, -5, 12, 21, 0, 21, 1, 116, 96, 172);
        ASK.ends("twice", 7, 5, 5, 21, 0, 21, 1, 116, 116, 172);
        ASK.ends("of 0", 0, 0, 0, 21, 0, 116, 172);
    }

    private static void branchesLead() {
        DUE.sentence("to the place of this instruction and j, a byte with its sign");
        int[] taken = {0, 1, -1, 0, 1, 0};
        int[] other = {1, 0, 0, -1, 0, 1};
        for (int kind = 153; kind <= 158; kind++) {
            // 0: 167 to 6, 2: 0, 3: 16 7, 5: 172, 6: 21 0, 8: to 3, 10: 16 8, 12: 172
            int[] back = {167, 6, 0, 16, 7, 172, 21, 0, kind, 256 - 5, 16, 8, 172};
            ASK.ends(kind + " back", taken[kind - 153], 0, 7, back);
            ASK.ends(kind + " is not taken", other[kind - 153], 0, 8, back);
            // 0: 21 0, 2: to 8, 4: 0, 5: 16 8, 7: 172, 8: 16 7, 10: 172
            int[] on = {21, 0, kind, 6, 0, 16, 8, 172, 16, 7, 172};
            ASK.ends(kind + " on", taken[kind - 153], 0, 7, on);
            ASK.ends(kind + " on, not taken", other[kind - 153], 0, 8, on);
        }
    }

    private static void jumpsLead() {
        DUE.sentence("167 j: there in any case; 168 j k: likewise, j k two bytes with their sign");
        int[] three = {-1, 0, 1};
        for (int v : three) {
            // 0: 167 to 5, 2: 21 0, 4: 172, 5: 167 to 2
            ASK.ends("167 on and back", v, 0, v, 167, 5, 21, 0, 172, 167, 256 - 3);
            ASK.ends("168 on and back", v, 0, v, 168, 0, 6, 21, 0, 172, 168, 255, 256 - 3);
            // 0: 168 to 306, 3: 21 0, 5: 172, 6: 300 times nothing, 306: 168 to 3
            int[] far = Files.join(Files.code(168, 1, 50, 21, 0, 172), Files.times(300, 0),
                Files.code(168, 254, 256 - 47));
            ASK.ends("168 far on and back", v, 0, v, far);
            StepRewriter x = Files.rewritten(Files.alone(far));
            DUE.is("both stay long", x.told(0, true, 4), 2);
            ASK.run("far", x, Ask.told(0, v, 0, 100), ENDED, v, 1 + 1 + 2, 4);
        }
    }

    private static void methodEnds() {
        DUE.sentence("172 the method ends with the top");
        ASK.ends("with one below", 3, 4, 4, 21, 0, 21, 1, 172);
        ASK.ends("nothing behind it is done", 3, 4, 3, 21, 0, 172, 21, 1, 172);
        // what the called one had below its top is gone: 50 - 4
        int[] caller = Files.method(0, 0, Files.code(16, 50, 184, 1, 100, 172));
        int[] called = Files.method(0, 0, Files.code(16, 2, 16, 3, 16, 4, 172));
        StepRewriter x = Files.rewritten(Files.file(caller, called));
        ASK.run("the called one, too", x, Ask.told(0, 0, 0, 100), ENDED, 46, 8 + 4, 4 + 4);
    }

    private static void called() {
        DUE.sentence("(the last one on top), which go; what it ends with is pushed");
        // 100 - (10 * a + b), which METHOD 2 of 3 tells of 7 and 3
        int[] first = Files.method(0, 0, Files.code(16, 100, 16, 7, 16, 3, 184, 2, 100, 172));
        int[] other = Files.method(1, 1, Files.code(21, 0, 16, 0, 184, 2, 172));
        int[] tells = Files.method(2, 2, Files.code(21, 0, 16, 10, 104, 21, 1, 96, 172));
        StepRewriter x = Files.rewritten(Files.file(first, other, tells));
        ASK.run("METHOD 0", x, Ask.told(0, 0, 0, 100), ENDED, 27, 10 + 6, 6 + 6);
        ASK.run("METHOD 1", x, Ask.told(1, 5, 9, 100), ENDED, 50, 8 + 6, 4 + 6);
        ASK.run("METHOD 2", x, Ask.told(2, 5, 9, 100), ENDED, 59, 6, 6);
    }

    private static void makes() {
        DUE.sentence("188 a: ARRAY a (0 .. 3) becomes so many 0s as the top, which goes, tells");
        for (int a = 0; a < 4; a++) {
            StepRewriter x = Files.rewritten(Files.alone(21, 1, 21, 0, 188, a, 172));
            ASK.run("the top goes", x, Ask.told(0, 4, 77, 100), ENDED, 77, 4 + 4, 4);
            for (int other = 0; other < 4; other++) {
                DUE.is("how many of " + other, x.element(other, -1), other == a ? 4 : 0);
            }
            for (int i = 0; i < 4; i++) {
                DUE.is("0s", x.element(a, i), 0);
            }
            // made, filled with 5s, and made anew: 0s again
            int[] fill = Files.code(16, 3, 188, a, 16, 0, 16, 5, 79, a, 16, 1, 16, 5, 79, a, 16, 2, 16, 5, 79, a);
            x = Files.rewritten(Files.alone(Files.join(fill, Files.code(21, 0, 188, a, 191))));
            for (int n = 0; n <= 4; n++) {
                DUE.is("made anew", x.run(0, n, 0, 100), THROWN);
                DUE.is("so many", x.element(a, -1), n);
                for (int i = 0; i < n; i++) {
                    DUE.is("0s again", x.element(a, i), 0);
                }
            }
        }
    }

    private static void hasAndFetches() {
        int[] make = {16, 3, 188, 1, 16, 5, 188, 2};
        DUE.sentence("190 a: how many it has");
        int[] has = {0, 3, 5, 0};
        for (int a = 0; a < 4; a++) {
            ASK.ends("of " + a, 0, 0, 10 - has[a], Files.join(make, Files.code(16, 10, 190, a, 100, 172)));
        }
        DUE.sentence("46 a: its element by the top, which it takes the place of");
        int[] kept = Files.join(make, Files.code(16, 2, 16, 40, 79, 1, 16, 2, 16, 60, 79, 2));
        for (int i = 0; i < 3; i++) {
            ASK.ends(i + " of 1", i, 0, 100 - (i == 2 ? 40 : 0),
                Files.join(kept, Files.code(16, 100, 21, 0, 46, 1, 100, 172)));
            ASK.ends(i + " of 2", i, 0, 100 - (i == 2 ? 60 : 0),
                Files.join(kept, Files.code(16, 100, 21, 0, 46, 2, 100, 172)));
        }
        DUE.sentence("79 a: its element by the second from the top becomes the top; both go");
        int[] keep = Files.join(make, Files.code(16, 100, 21, 0, 21, 1, 79, 2, 172));
        StepRewriter x = Files.rewritten(Files.alone(keep));
        for (int i = 0; i < 5; i++) {
            ASK.run("element " + i, x, Ask.told(0, i, 70 + i, 100), ENDED, 100, 9 + 8, 9);
            for (int k = 0; k < 5; k++) {
                DUE.is("its element " + k, x.element(2, k), k == i ? 70 + i : 0);
            }
            DUE.is("how many are in it", x.element(2, -1), 5);
            DUE.is("another one's", x.element(1, Math.min(i, 2)), 0);
        }
    }

    private static void thrown() {
        DUE.sentence("191 KIND 4 is thrown");
        StepRewriter x = Files.rewritten(Files.alone(21, 0, 191));
        ASK.run("in the first METHOD", x, Ask.told(0, 9, 0, 100), THROWN, 4, 2, 2);
        DUE.sentence("Thrown in a METHOD, a KIND goes to the first HANDLER whose KIND is it or 0");
        // 0: 21 0, 2: 21 1, 4: 108, 5: 191, 6: * 10 (AT of KIND 4), 10: * 20 (AT of all others)
        int[] code = {21, 0, 21, 1, 108, 191, 16, 10, 104, 172, 16, 20, 104, 172};
        int[] file = Files.file(Files.method(2, 2, code, Files.handler(0, 6, 6, 4), Files.handler(0, 6, 10, 0)));
        x = Files.rewritten(file);
        ASK.run("KIND 4", x, Ask.told(0, 9, 3, 100), ENDED, 40, 4 + 3, 4 + 3);
        ASK.run("KIND 1", x, Ask.told(0, 9, 0, 100), ENDED, 20, 4 + 3, 3 + 3);
    }

    private static void rewrittenAlone() {
        DUE.sentence("202 a b c d: a number (four bytes) is PAID");
        StepRewriter x = Files.loaded(Files.alone(16, 5, 172));
        x.price(16, 700);
        x.price(172, 300);
        x.rewrite();
        ASK.bytes("1000", x, 0, true, 202, 0, 0, 3, 232, 16, 5, 172);
        ASK.run("1000 are PAID", x, Ask.told(0, 0, 0, 1000), ENDED, 5, 1000, 2);
        ASK.run("999 are too few", x, Ask.told(0, 0, 0, 999), STOPPED, 0, 0, 0);
        DUE.sentence("These two are in rewritten code alone. All other bytes are none.");
        int known = 0;
        for (int b = 0; b < 256; b++) {
            // what is no instruction is none, though one doesn't come to it
            int[] file = Files.alone(191, b, 0, 0);
            int answer = Files.load(new StepRewriter(), file);
            known += answer == 1 ? 1 : 0;
            if (b == 202 || b == 203) {
                DUE.is(b + " in a FILE", answer, -10 - 6);
            }
        }
        DUE.is("known instructions", known, 31);
        x = Files.rewritten(Files.alone(16, 0, 188, 0, 191));
        DUE.is("202", x.byteAt(0, true, 0), 202);
        DUE.is("203", x.byteAt(0, true, 7), 203);
        x.unwrite();
        ASK.bytes("neither in the FILE", x, 0, false, 16, 0, 188, 0, 191);
    }

    private static void wrong(String what, int place, int[] bytes) {
        DUE.is(what, Files.load(new StepRewriter(), bytes), -10 - place);
    }

    private static void numbersAtTheirPlaces() {
        DUE.sentence("METHOD by METHOD its numbers, each at its place");
        int[] method = Files.method(2, 3, Files.code(16, 5, 172), Files.handler(0, 2, 2, 0));
        int[] file = Files.file(method, method, method);
        DUE.is("as it is", Files.load(new StepRewriter(), file), 3);
        for (int m = 0; m < 3; m++) {
            int at = 1 + 15 * m;
            wrong("PARAMETERS of METHOD " + m, at, Files.with(file, at, 5));
            wrong("LOCALS of METHOD " + m, at + 1, Files.with(file, at + 1, 1));
            wrong("how many bytes of METHOD " + m, at + 2, Files.with(file, at + 2, 9));
            wrong("HANDLERS of METHOD " + m, at + 7, Files.with(file, at + 7, 9));
            int[] all = Files.with(Files.with(Files.with(file, at, 5), at + 2, 9), at + 7, 9);
            wrong("the first of them in METHOD " + m, at, all);
            wrong("then the next in METHOD " + m, at + 2, Files.with(all, at, 2));
        }
        wrong("METHOD 1 before METHOD 2", 1 + 15 + 7, Files.with(Files.with(file, 1 + 15 + 7, 9), 1 + 30, 5));
    }

    private static void codeFromPlaceZero() {
        DUE.sentence("then its CODE, from place 0 on: each instruction a known one (not 202, 203), whole");
        int[] code = {16, 5, 21, 0, 172, 184, 0, 190, 3, 17, 0, 0};
        int[] places = {0, 2, 4, 5, 7, 9};
        for (int first = 0; first < places.length; first++) {
            int[] bad = code.clone();
            for (int i = first; i < places.length; i++) {
                bad[places[i]] = 1;
            }
            wrong("the first is told, at " + places[first], 5 + places[first], Files.alone(bad));
        }
        DUE.is("none is wrong", Files.load(new StepRewriter(), Files.alone(code)), 1);
        wrong("the last is not whole", 5 + 9, Files.alone(Files.first(code, 11)));
    }

    private static void handlersPlace() {
        DUE.sentence("KIND is such (the HANDLER)");
        int[] code = {16, 5, 172, 172};
        for (int k = 0; k < 8; k++) {
            for (int number = 0; number < 4; number++) {
                int[][] handlers = new int[8][];
                for (int i = 0; i < 8; i++) {
                    handlers[i] = Files.handler(0, 2, 3, i % 5);
                }
                // FROM and TO and AT in the 16, and KIND 5, by one HANDLER and by those behind it
                for (int i = k; i < 8; i++) {
                    handlers[i][number] = number == 3 ? 5 : 1;
                }
                int[] file = Files.file(Files.method(0, 0, code, handlers));
                wrong("HANDLER " + k + ", its " + number, 5 + 4 + 1 + 7 * k, file);
            }
        }
    }

    private static void stacksInOrder() {
        DUE.sentence("Then METHOD by METHOD its stack: place 0 has the depth 0");
        int[] right = Files.method(0, 0, Files.code(191));
        int[] wrong = Files.method(0, 0, Files.code(87, 191));
        for (int first = 0; first < 4; first++) {
            int[][] all = new int[4][];
            for (int m = 0; m < 4; m++) {
                all[m] = m < first ? right : wrong;
            }
            wrong("METHOD " + first, 1 + 6 * first + 4, Files.file(all));
        }
        // a METHOD begins with an empty stack, however many PARAMETERS it has
        wrong("PARAMETERS are no depth", 5, Files.file(Files.method(4, 4, Files.code(172))));
        int[] numbers = Files.method(5, 5, Files.code(191));
        wrong("numbers of the last before the stack of the first", 8, Files.file(wrong, numbers));
    }

    private static void sums() {
        DUE.sentence("A BLOCK'S SUM is that of its instructions");
        // three of 0, one of 16, and one of 184 whose own METHOD is no part of it; then 21, 188, 172
        int[] code = {0, 0, 16, 0, 184, 1, 0, 153, 2, 21, 0, 188, 0, 191};
        int[] other = Files.method(1, 1, Files.code(0, 0, 0, 191));
        StepRewriter x = Files.loaded(Files.file(Files.method(1, 1, code), other));
        DUE.is("at first", x.block(0, 0, 1), 3 + 1 + 5 + 1);
        DUE.is("the second at first", x.block(0, 1, 1), 3);
        DUE.is("the other one's", x.block(1, 0, 1), 4);
        int[][] prices = {{0, 100}, {16, 7}, {184, 20}, {153, 1000}, {21, 2}, {188, 30}, {191, 400}};
        for (int[] one : prices) {
            x.price(one[0], one[1]);
        }
        DUE.is("then", x.block(0, 0, 1), 300 + 7 + 20 + 1000);
        DUE.is("the second then", x.block(0, 1, 1), 2 + 30 + 400);
        DUE.is("the other one's then", x.block(1, 0, 1), 300 + 400);
        x.rewrite();
        ASK.bytes("202 with it", x, 0, true, 202, 0, 0, 5, 47, 0, 0, 16, 0, 184, 1, 0, 153, 2,
            202, 0, 0, 1, 176, 21, 0, 203, 188, 0, 191);
    }

    private static void opposites() {
        DUE.sentence("else the opposite one (153 and 154, 155 and 156, 157 and 158) over a 168 behind it (j is 5) "
            + "that leads there");
        int[][] pairs = {{153, 154}, {154, 153}, {155, 156}, {156, 155}, {157, 158}, {158, 157}};
        for (int[] pair : pairs) {
            // 0: 21 0, 2: to 27, 4: 16 8, 6: 172 and twenty more, 27: 16 7, 29: 172
            int[] code = Files.join(Files.code(21, 0, pair[0], 25, 16, 8, 172), Files.times(20, 172),
                Files.code(16, 7, 172));
            StepRewriter x = Files.rewritten(Files.alone(code));
            int[] middle = Files.times(20, 202, 0, 0, 0, 1, 172);
            ASK.bytes(pair[0] + " is long", x, 0, true, Files.join(Files.code(202, 0, 0, 0, 2, 21, 0, pair[1], 5,
                168, 0, 131, 202, 0, 0, 0, 2, 16, 8, 172), middle, Files.code(202, 0, 0, 0, 2, 16, 7, 172)));
        }
    }

    private static void shortAtFirst() {
        DUE.sentence("all are short at first");
        // 0: 16 0, 2: 87, 3: 168 to 132, 6: 191s, 129: 168 to 0, 132: 191; each fits only if the other one is short
        int[] code = Files.join(Files.code(16, 0, 87, 168, 0, 129), Files.times(123, 191),
            Files.code(168, 255, 256 - 129, 191));
        StepRewriter x = Files.loaded(Files.alone(code));
        for (int kind : new int[] {16, 87, 168, 191}) {
            x.price(kind, 0);
        }
        DUE.is("both are short", x.rewrite(), code.length - 2);
        DUE.is("the first", x.byteAt(0, true, 3), 167);
        DUE.is("its way", x.byteAt(0, true, 4), 127);
        DUE.is("the second", x.byteAt(0, true, 128), 167);
        DUE.is("its way back", x.byteAt(0, true, 129), 256 - 128);
        DUE.is("no 168s", x.told(0, true, 4), 0);
    }

    private static void counted() {
        DUE.sentence("COUNTED is what was PAID");
        // METHOD 0: 0: 21 0, 2: 158 to 19, 4: 21 0, 6: 188 0, 8: 21 0, 10: 184 1, 12: 54 0, 14: 167 to 0, ..
        int[] loop = Files.method(1, 1, Files.code(21, 0, 158, 14, 21, 0, 188, 0, 21, 0, 184, 1, 54, 0, 167, 256 - 14,
            16, 3, 172));
        // METHOD 1: one less
        int[] less = Files.method(1, 1, Files.code(21, 0, 16, 255, 96, 172));
        StepRewriter x = Files.rewritten(Files.file(loop, less));
        for (int n = 0; n <= 5; n++) {
            int turns = 2 + (4 + 5 + 1) + 4;
            int due = n * turns + n * (n + 1) / 2 + 2 + 2;
            ASK.run(n + " turns", x, Ask.told(0, n, 0, due), ENDED, 3, due, n * (2 + 6 + 4) + 4);
            ASK.run(n + " turns, one too few", x, Ask.told(0, n, 0, due - 1), STOPPED, 0, due - 2, n * 12 + 2);
        }
    }
}
