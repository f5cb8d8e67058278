/**
 * The answers STATE, BAD, FULL and NONE of each call (promises 1 to 16): the last argument that is right
 * and the first that is not, on either side, and that a call which is refused changes nothing.
 */
public final class RefusedTest {
    private static final int NONE = StepRewriter.NONE, STATE = StepRewriter.STATE;
    private static final int BAD = StepRewriter.BAD, FULL = StepRewriter.FULL;
    private static final int LOW = Integer.MIN_VALUE, HIGH = Integer.MAX_VALUE;
    private static final boolean[] BOTH = {false, true};
    private static final Due DUE = new Due("RefusedTest");

    public static void main(String[] args) {
        newObject();
        feedBad();
        feedFull();
        loadEmpties();
        loadLeaves();
        loadDrops();
        rewriteState();
        methods();
        whats();
        places();
        handlers();
        blocks();
        runs();
        order();
        nothingChanges();
        unwriteKeeps();
        unwriteAgain();
        unwriteState();
        clears();
        DUE.end();
    }

    /** Two METHODS: 0: 16 5, 2: 188 1, 4: 16 7, 6: 172, 7: 172 (AT), and one that is 16 6, 172. */
    private static int[] file() {
        int[] first = Files.method(0, 0, Files.code(16, 5, 188, 1, 16, 7, 172, 172), Files.handler(0, 4, 7, 3));
        return Files.file(first, Files.method(2, 3, Files.code(16, 6, 172)));
    }

    /** It has a FILE, is REWRITTEN and was run; three bytes are on the tape. */
    private static StepRewriter used() {
        StepRewriter x = Files.rewritten(file());
        x.run(0, 0, 0, 100);
        x.feed(0x010203, 3);
        return x;
    }

    private static void newObject() {
        DUE.sentence("No FILE, an empty tape, PRICES as told");
        StepRewriter x = new StepRewriter();
        DUE.is("no FILE", x.told(0, false, 0), STATE);
        DUE.is("nothing REWRITTEN", x.told(0, true, 0), STATE);
        DUE.is("no FILE to rewrite", x.rewrite(), STATE);
        DUE.is("an empty tape", x.load(), -10);
        DUE.is("the first byte", x.feed(2, 1), 1);
        DUE.is("nothing behind it", x.load(), -11);
        DUE.is("PRICE of 0", x.price(0, 0), 1);
        DUE.is("PRICE of 184", x.price(184, 0), 5);
        DUE.is("other objects have their own", new StepRewriter().price(184, 0), 5);
    }

    private static void feedBad() {
        DUE.sentence("BAD: n is not 1 .. 8");
        StepRewriter x = new StepRewriter();
        int has = 0;
        for (int n : new int[] {LOW, -8, -1, 0, 1, 2, 7, 8, 9, 10, 64, 256 + 8, HIGH}) {
            boolean right = n >= 1 && n <= 8;
            has += right ? n : 0;
            DUE.is("feed n " + n, x.feed(-1L, n), right ? has : BAD);
        }
        DUE.sentence("The n lowest bytes of w, the highest of them first, come behind the tape");
        int[] five = {1, 0, 0, 0, 3, 16, 5, 172, 0};
        for (int n = 1; n <= 8; n++) {
            // each part has other bytes above those that are meant
            x = new StepRewriter();
            for (int i = 0; i < five.length; i += n) {
                long w = -1L;
                int more = Math.min(n, five.length - i);
                for (int k = 0; k < more; k++) {
                    w = w << 8 | five[i + k];
                }
                DUE.is("feed", x.feed(w, more), i + more);
            }
            DUE.is("by " + n + " bytes", x.load(), 1);
            DUE.is("its byte 1", x.byteAt(0, false, 1), 5);
        }
    }

    /** A tape with room for so many bytes more (up to 8). */
    private static StepRewriter withRoom(int room) {
        StepRewriter x = new StepRewriter();
        Files.feed(x, Files.times(6000 - room, 191));
        return x;
    }

    private static void feedFull() {
        DUE.sentence("FULL: there would be more than 6000");
        for (int n = 1; n <= 8; n++) {
            DUE.is(n + " with room for one more", withRoom(n + 1).feed(0, n), 5999);
            DUE.is(n + " just fit", withRoom(n).feed(0, n), 6000);
            StepRewriter x = withRoom(n - 1);
            DUE.is(n + " with room for one less", x.feed(0, n), FULL);
            if (n > 1) {
                DUE.is("none of them came", x.feed(0, n - 1), 6000);
            }
            DUE.is("one when it is full", x.feed(0, 1), FULL);
            DUE.is("8 when it is full", x.feed(0, 8), FULL);
            DUE.is("9 when it is full", x.feed(0, 9), BAD);
            DUE.is("0 when it is full", x.feed(0, 0), BAD);
        }
        // 1 and three times 5 and 2000, 2000, 1984: just 6000
        int[] big = Files.method(0, 0, Files.times(2000, 191));
        int[] file = Files.file(big, big, Files.method(0, 0, Files.times(1984, 191)));
        StepRewriter x = new StepRewriter();
        Files.feed(x, file);
        DUE.is("one too many", x.feed(0, 1), FULL);
        DUE.is("load of " + file.length, x.load(), 3);
        DUE.is("the last byte", x.byteAt(2, false, 1983), 191);
        DUE.is("the tape has room again", x.feed(0, 8), 8);
    }

    private static void loadEmpties() {
        DUE.sentence("The tape, which is empty then");
        StepRewriter x = new StepRewriter();
        DUE.is("right", Files.load(x, file()), 2);
        DUE.is("empty then", x.feed(9, 1), 1);
        DUE.is("not right", x.load(), -10);
        DUE.is("empty then, too", x.feed(9, 1), 1);
        x.load();
        DUE.is("nothing", x.load(), -10);
        DUE.is("nothing again", x.load(), -10);
        DUE.is("as before", x.told(1, false, 0), 3);
    }

    private static void loadLeaves() {
        DUE.sentence("-10 less the place at which it is not RIGHT (then all is as it was)");
        int[] right = file();
        // wrong at its numbers, CODE, HANDLERS, jumps, end and stack
        int[][] wrong = {{}, {9}, Files.first(right, 10), Files.with(right, 5, 202), Files.with(right, 5, 1),
            Files.with(right, 20, 5), Files.with(right, 9, 167), Files.join(right, Files.code(0)),
            Files.with(Files.with(right, 9, 87), 10, 87), Files.with(right, 1, 5)};
        for (int[] bytes : wrong) {
            StepRewriter x = used();
            x.load();
            Look before = Look.at(x);
            DUE.is("not right", Files.load(x, bytes) <= -10 ? 1 : 0, 1);
            DUE.is("as it was", Look.at(x).differs(before), 0);
            DUE.is("it runs", x.run(1, 0, 0, 100), 0);
        }
    }

    private static void loadDrops() {
        DUE.sentence("is a FILE (and nothing is REWRITTEN): how many METHODS");
        for (int n = 1; n <= 8; n++) {
            StepRewriter x = used();
            x.load();
            int[][] methods = new int[n][];
            java.util.Arrays.fill(methods, Files.method(0, 0, Files.code(191)));
            DUE.is("METHODS", Files.load(x, Files.file(methods)), n);
            DUE.is("told", x.told(0, true, 0), STATE);
            DUE.is("byteAt", x.byteAt(0, true, 0), STATE);
            DUE.is("handler", x.handler(0, true, 0, 0), STATE);
            DUE.is("run", x.run(0, 0, 0, 100), STATE);
            DUE.is("unwrite", x.unwrite(), STATE);
            DUE.is("the last METHOD", x.told(n - 1, false, 0), 1);
            DUE.is("no METHOD more", x.told(n, false, 0), BAD);
            DUE.is("no HANDLERS of the FILE before", x.handler(0, false, 0, 0), BAD);
            DUE.is("the latest run", x.answer(), 7);
            DUE.is("its ARRAY", x.element(1, -1), 5);
        }
    }

    private static void rewriteState() {
        DUE.sentence("STATE: there is no FILE");
        StepRewriter x = new StepRewriter();
        DUE.is("no FILE", x.rewrite(), STATE);
        Files.load(x, Files.code(1));
        DUE.is("none that was right", x.rewrite(), STATE);
        Files.load(x, file());
        DUE.is("a FILE", x.rewrite(), 19 + 8);
        x.clear();
        DUE.is("no FILE any more", x.rewrite(), STATE);
    }

    private static void methods() {
        DUE.sentence("BAD: no such m or what", "m");
        for (int n = 1; n <= 8; n++) {
            int[][] all = new int[n][];
            java.util.Arrays.fill(all, Files.method(0, 0, Files.code(191, 172), Files.handler(0, 1, 1, 0)));
            StepRewriter x = Files.rewritten(Files.file(all));
            for (int m : new int[] {LOW, -2, -1, 0, n - 1, n, n + 1, 8, 9, 255, 256, HIGH}) {
                boolean right = m >= 0 && m < n;
                for (boolean written : BOTH) {
                    DUE.is("told of " + m, x.told(m, written, 2), right ? 1 : BAD);
                    DUE.is("byteAt of " + m, x.byteAt(m, written, 0), !right ? BAD : written ? 202 : 191);
                    DUE.is("handler of " + m, x.handler(m, written, 0, 0), right ? 0 : BAD);
                }
                DUE.is("block of " + m, x.block(m, 0, 1), right ? 1 : BAD);
                DUE.is("run of " + m, x.run(m, 0, 0, 100), right ? 0 : BAD);
            }
        }
    }

    private static void whats() {
        DUE.sentence("BAD: no such m or what", "what");
        StepRewriter x = used();
        for (int what : new int[] {LOW, -2, -1, 0, 1, 2, 3, 4, 5, 6, 7, HIGH}) {
            for (boolean written : BOTH) {
                int[] told = written ? new int[] {19, 2, 1, 0, 0, NONE} : new int[] {8, 2, 1, 0, 0, 1};
                int[] handler = written ? new int[] {0, 10, 13, 3} : new int[] {0, 4, 7, 3};
                DUE.is("told " + what, x.told(0, written, what), what >= 0 && what <= 5 ? told[what] : BAD);
                DUE.is("handler " + what, x.handler(0, written, 0, what), what >= 0 && what <= 3 ? handler[what] : BAD);
            }
            DUE.is("block " + what, x.block(0, 1, what), what == 0 ? 7 : what == 1 ? 1 : BAD);
        }
    }

    private static void places() {
        DUE.sentence("Byte i of that CODE, 0 .. 255. STATE; BAD: no such m or i");
        StepRewriter x = used();
        for (boolean written : BOTH) {
            for (int m = 0; m < 2; m++) {
                int length = x.told(m, written, 0);
                int first = written ? 202 : 16;
                for (int i : new int[] {LOW, -2, -1, 0, length - 1, length, length + 1, 2000, 4000, 32000, HIGH}) {
                    boolean right = i == 0 || i == length - 1;
                    DUE.is("byte " + i, x.byteAt(m, written, i), !right ? BAD : i == 0 ? first : 172);
                }
            }
        }
        x = Files.loaded(Files.file(Files.method(0, 0, Files.code(16, 255, 17, 128, 127, 191))));
        int[] want = {16, 255, 17, 128, 127, 191};
        for (int i = 0; i < want.length; i++) {
            DUE.is("byte " + i, x.byteAt(0, false, i), want[i]);
        }
    }

    private static void handlers() {
        DUE.sentence("HANDLER k: what = 0 FROM, 1 TO, 2 AT, 3 KIND. STATE; BAD.", "k");
        for (int n = 0; n <= 8; n++) {
            int[][] all = new int[n][];
            for (int k = 0; k < n; k++) {
                all[k] = Files.handler(0, 1 + k % 2, 1 + k % 2, k % 5);
            }
            StepRewriter x = Files.rewritten(Files.file(Files.method(0, 0, Files.code(191, 172, 172), all)));
            for (int k : new int[] {LOW, -1, 0, n - 1, n, n + 1, 8, 9, HIGH}) {
                for (boolean written : BOTH) {
                    DUE.is("KIND of " + k, x.handler(0, written, k, 3), k >= 0 && k < n ? k % 5 : BAD);
                }
            }
            DUE.is("how many", x.told(0, false, 2), n);
            DUE.is("how many as REWRITTEN", x.told(0, true, 2), n);
        }
    }

    private static void blocks() {
        DUE.sentence("BLOCK k of METHOD m, by places");
        for (int n : new int[] {1, 2, 1999, 2000}) {
            StepRewriter x = Files.loaded(Files.file(Files.method(0, 0, Files.times(n, 191))));
            DUE.is("how many", x.told(0, false, 1), n);
            for (int k : new int[] {LOW, -2, -1, 0, 1, n - 1, n, n + 1, HIGH}) {
                boolean right = k >= 0 && k < n;
                DUE.is("its beginning", x.block(0, k, 0), right ? k : BAD);
                DUE.is("its SUM", x.block(0, k, 1), right ? 1 : BAD);
            }
        }
        DUE.sentence("STATE: no FILE; BAD.", "block");
        StepRewriter x = new StepRewriter();
        DUE.is("no FILE", x.block(0, 0, 0), STATE);
        DUE.is("a FILE that is not REWRITTEN", Files.loaded(file()).block(0, 0, 0), 0);
    }

    private static void runs() {
        DUE.sentence("STATE: nothing is REWRITTEN; BAD.");
        StepRewriter x = new StepRewriter();
        DUE.is("no FILE", x.run(0, 0, 0, 100), STATE);
        Files.load(x, file());
        DUE.is("nothing is REWRITTEN", x.run(0, 0, 0, 100), STATE);
        x.rewrite();
        for (int limit : new int[] {LOW, -2, -1, 0, 1, 99999, 100000, 100001, 100002, HIGH}) {
            boolean right = limit >= 0 && limit <= 100000;
            DUE.is("LIMIT " + limit, x.run(1, 0, 0, limit), !right ? BAD : limit < 2 ? 1 : 0);
        }
    }

    private static void order() {
        DUE.sentence("STATE: there is none such; BAD: no such m or what", "STATE comes first");
        StepRewriter x = new StepRewriter();
        for (int turn = 0; turn < 2; turn++) {
            for (boolean written : BOTH) {
                // at first there is no FILE, then nothing is REWRITTEN
                int due = turn == 0 || written ? STATE : BAD;
                DUE.is("told", x.told(-1, written, -1), due);
                DUE.is("told, no such what", x.told(0, written, 6), due);
                DUE.is("byteAt", x.byteAt(-1, written, -1), due);
                DUE.is("handler", x.handler(9, written, 9, 9), due);
            }
            DUE.is("block", x.block(9, 9, 9), turn == 0 ? STATE : BAD);
            DUE.is("run", x.run(9, 0, 0, -1), STATE);
            Files.load(x, file());
        }
    }

    private static void nothingChanges() {
        DUE.sentence("Nothing is promised beyond the answers and state changes described above",
            "what is refused changes nothing");
        StepRewriter x = used();
        Look before = Look.at(x);
        DUE.is("feed", x.feed(1, 0), BAD);
        DUE.is("feed", x.feed(1, 9), BAD);
        DUE.is("price", x.price(202, 1), BAD);
        DUE.is("price", x.price(16, -1), BAD);
        DUE.is("price", x.price(172, 1001), BAD);
        DUE.is("told", x.told(2, true, 0), BAD);
        DUE.is("byteAt", x.byteAt(0, true, 19), BAD);
        DUE.is("handler", x.handler(1, true, 0, 0), BAD);
        DUE.is("block", x.block(0, 2, 0), BAD);
        DUE.is("run, no such m", x.run(2, 1, 1, 100), BAD);
        DUE.is("run, no such LIMIT", x.run(1, 1, 1, 100001), BAD);
        DUE.is("element", x.element(4, 0), BAD);
        DUE.is("as it was", Look.at(x).differs(before), 0);
        DUE.is("the tape, too", x.feed(4, 1), 4);
        DUE.is("PRICE of 16", x.price(16, 1), 1);
        DUE.is("PRICE of 172", x.price(172, 1), 1);

        x = Files.loaded(file());
        before = Look.at(x);
        DUE.is("run", x.run(0, 0, 0, 100), STATE);
        DUE.is("unwrite", x.unwrite(), STATE);
        DUE.is("as it was without REWRITTEN", Look.at(x).differs(before), 0);
    }

    private static void unwriteKeeps() {
        DUE.sentence("(What is REWRITTEN stays.)");
        StepRewriter x = used();
        Look before = Look.at(x);
        DUE.is("unwrite", x.unwrite(), 11);
        DUE.is("all is as it was", Look.at(x).differs(before), 0);
        DUE.is("unwrite again", x.unwrite(), 11);
        DUE.is("the tape", x.feed(4, 1), 4);
        DUE.is("it runs", x.run(1, 0, 0, 2), 0);
        DUE.is("and ends with", x.answer(), 6);
        DUE.is("rewrite", x.rewrite(), 27);
        // what is REWRITTEN by other PRICES stays, though the FILE is another one
        x = Files.rewritten(Files.file(Files.method(0, 0, Files.code(168, 0, 3, 191))));
        Look older = Look.at(x);
        DUE.is("bytes in the FILE", x.unwrite(), 3);
        DUE.is("as REWRITTEN", x.told(0, true, 0), 13);
        DUE.is("another byte, and its length", Look.at(x).differs(older) > 0 ? 1 : 0, 1);
        x.price(167, 4);
        DUE.is("SUM of the FILE now", x.block(0, 0, 1), 4);
        DUE.is("SUM as REWRITTEN", x.byteAt(0, true, 4), 1);
    }

    private static void unwriteAgain() {
        DUE.sentence("What is REWRITTEN becomes a FILE again, in place of the one there was", "each time");
        // 0: 168 to 5, 3: 191, 4: 191, 5: 16 5, 7: 172, which becomes a byte shorter
        int[] longer = Files.method(0, 0, Files.code(168, 0, 5, 191, 191, 16, 5, 172));
        StepRewriter x = Files.rewritten(Files.file(longer, longer));
        for (int turn = 0; turn < 4; turn++) {
            DUE.is("bytes", x.unwrite(), 14);
            for (int m = 0; m < 2; m++) {
                DUE.is("bytes of METHOD " + m, x.told(m, false, 0), 7);
                DUE.is("its first", x.byteAt(m, false, 0), 167);
                DUE.is("its way", x.byteAt(m, false, 1), 4);
                DUE.is("its last", x.byteAt(m, false, 6), 172);
                DUE.is("its BLOCKS", x.told(m, false, 1), 4);
                DUE.is("its depth", x.told(m, false, 5), 1);
            }
            DUE.is("rewrite", turn == 2 ? x.rewrite() : 54, 54);
        }
        DUE.is("another FILE", Files.load(x, file()), 2);
        DUE.is("another FILE is REWRITTEN", x.rewrite(), 27);
        Look before = Look.at(x);
        DUE.is("another FILE is unwritten", x.unwrite(), 11);
        DUE.is("all is as it was", Look.at(x).differs(before), 0);
    }

    private static void unwriteState() {
        DUE.sentence("STATE: nothing is REWRITTEN.", "unwrite");
        StepRewriter x = new StepRewriter();
        DUE.is("no FILE", x.unwrite(), STATE);
        Files.load(x, file());
        DUE.is("a FILE", x.unwrite(), STATE);
        x.rewrite();
        DUE.is("REWRITTEN", x.unwrite(), 11);
        Files.load(x, file());
        DUE.is("another FILE", x.unwrite(), STATE);
        x.rewrite();
        x.clear();
        DUE.is("cleared", x.unwrite(), STATE);
    }

    private static void clears() {
        DUE.sentence("No FILE, nothing REWRITTEN, an empty tape, PRICES as at first, nothing run");
        StepRewriter x = used();
        Look none = Look.at(new StepRewriter());
        for (int kind : new int[] {0, 16, 172, 184, 188, 191}) {
            x.price(kind, 1000);
        }
        x.clear();
        DUE.is("as a new one", Look.at(x).differs(none), 0);
        DUE.is("an empty tape", x.feed(1, 1), 1);
        x.load();
        for (int kind : new int[] {0, 16, 172, 184, 188, 191}) {
            int first = kind == 184 ? 5 : 1;
            DUE.is("PRICE of " + kind, x.price(kind, first), first);
        }
        x.clear();
        x.clear();
        DUE.is("load", Files.load(x, file()), 2);
        DUE.is("rewrite", x.rewrite(), 27);
        DUE.is("nothing run", x.answer() + x.counted() + x.steps() + x.element(1, -1), 0);
        DUE.is("run", x.run(0, 0, 0, 11), 0);
        DUE.is("answer", x.answer(), 7);
        DUE.is("counted", x.counted(), 9);
    }
}
