/** Promises 1 to 4 and 16: a new object, feed, load, price, clear. */
public final class FileTest {
    private static final int NONE = StepRewriter.NONE, STATE = StepRewriter.STATE;
    private static final int BAD = StepRewriter.BAD, FULL = StepRewriter.FULL;
    private static final int[] KINDS = {0, 16, 17, 21, 46, 54, 79, 87, 89, 96, 100, 104, 108, 112, 116, 126,
        128, 130, 153, 154, 155, 156, 157, 158, 167, 168, 172, 184, 188, 190, 191};
    private static final int[] FIVE = Files.file(Files.method(0, 0, Files.code(16, 5, 172)));
    private static final Due DUE = new Due("FileTest");

    public static void main(String[] args) {
        newObject(new StepRewriter(), "new");
        feed();
        feedFull();
        wrongNumbers();
        wrongCode();
        wrongHandlers();
        wrongJumps();
        wrongOrder();
        wrongDepths();
        wrongDepthPlaces();
        greatestSizes();
        loadKeeps();
        price();
        clear();
        DUE.end();
    }

    private static void newObject(StepRewriter x, String what) {
        for (boolean written : new boolean[] {false, true}) {
            DUE.is(what + " told", x.told(0, written, 0), STATE);
            DUE.is(what + " told, no such m", x.told(-1, written, 9), STATE);
            DUE.is(what + " byteAt", x.byteAt(0, written, 0), STATE);
            DUE.is(what + " handler", x.handler(0, written, 0, 0), STATE);
        }
        DUE.is(what + " block", x.block(0, 0, 0), STATE);
        DUE.is(what + " rewrite", x.rewrite(), STATE);
        DUE.is(what + " run", x.run(0, 0, 0, 0), STATE);
        DUE.is(what + " run, wrong limit", x.run(0, 0, 0, -1), STATE);
        DUE.is(what + " unwrite", x.unwrite(), STATE);
        DUE.is(what + " answer", x.answer(), 0);
        DUE.is(what + " counted", x.counted(), 0);
        DUE.is(what + " steps", x.steps(), 0);
        for (int a = 0; a < 4; a++) {
            DUE.is(what + " element -1", x.element(a, -1), 0);
            DUE.is(what + " element 0", x.element(a, 0), NONE);
        }
        for (int kind : KINDS) {
            int first = kind == 184 ? 5 : 1;
            DUE.is(what + " price " + kind, x.price(kind, first), first);
        }
        DUE.is(what + " load of an empty tape", x.load(), -10);
        DUE.is(what + " feed", x.feed(1, 1), 1);
    }

    private static void feed() {
        StepRewriter x = new StepRewriter();
        for (int n : new int[] {0, 9, -1, Integer.MIN_VALUE, Integer.MAX_VALUE}) {
            DUE.is("feed n " + n, x.feed(1, n), BAD);
        }
        int sum = 0;
        for (int n = 1; n <= 8; n++) {
            sum += n;
            DUE.is("feed n " + n, x.feed(-1L, n), sum);
        }
        x.load();
        DUE.is("feed behind load", x.feed(0xFFFFFF0100000003L, 5), 5);
        DUE.is("feed the rest", x.feed(0x7710FBACL, 3), 8);
        DUE.is("feed the last", x.feed(0x100, 1), 9);
        DUE.is("load what was fed", x.load(), 1);
        DUE.is("first byte", x.byteAt(0, false, 0), 16);
        DUE.is("second byte", x.byteAt(0, false, 1), 251);
        DUE.is("third byte", x.byteAt(0, false, 2), 172);
        DUE.is("all bytes", x.told(0, false, 0), 3);
    }

    private static void feedFull() {
        StepRewriter x = new StepRewriter();
        for (int i = 0; i < 749; i++) {
            x.feed(0, 8);
        }
        DUE.is("feed to 5999", x.feed(0, 7), 5999);
        DUE.is("feed above 6000", x.feed(0, 2), FULL);
        DUE.is("feed far above 6000", x.feed(0, 8), FULL);
        DUE.is("feed n 9 when full", x.feed(0, 9), BAD);
        DUE.is("feed to 6000", x.feed(0, 1), 6000);
        DUE.is("feed to 6001", x.feed(0, 1), FULL);
        DUE.is("load of zeros", x.load(), -10);
        DUE.is("feed again", x.feed(0, 8), 8);
    }

    private static void wrong(String what, int place, int... bytes) {
        StepRewriter x = new StepRewriter();
        DUE.is("load, " + what, Files.load(x, bytes), -10 - place);
        DUE.is("no FILE, " + what, x.told(0, false, 0), STATE);
    }

    private static void right(String what, int deepest, int... bytes) {
        StepRewriter x = new StepRewriter();
        DUE.is("load, " + what, Files.load(x, bytes), bytes[0]);
        DUE.is("deepest, " + what, x.told(0, false, 5), deepest);
    }

    private static void wrongNumbers() {
        wrong("nothing", 0);
        wrong("no METHODS", 0, 0);
        wrong("9 METHODS", 0, 9);
        wrong("no PARAMETERS", 1, 1);
        wrong("5 PARAMETERS", 1, 1, 5);
        wrong("no LOCALS", 2, 1, 4);
        wrong("too few LOCALS", 2, 1, 2, 1);
        wrong("21 LOCALS", 2, 1, 0, 21);
        wrong("no length", 3, 1, 0, 20);
        wrong("half a length", 4, 1, 0, 0, 255);
        wrong("length 0", 3, 1, 0, 0, 0, 0);
        wrong("length 2001", 3, 1, 0, 0, 7, 209);
        wrong("length 2000, no CODE", 5, 1, 0, 0, 7, 208);
        wrong("no HANDLERS", 8, 1, 0, 0, 0, 3, 16, 5, 172);
        wrong("9 HANDLERS", 8, 1, 0, 0, 0, 3, 16, 5, 172, 9);
        wrong("8 HANDLERS that are not there", 9, 1, 0, 0, 0, 3, 16, 5, 172, 8);
        wrong("a HANDLER of 6 bytes", 15, 1, 0, 0, 0, 3, 16, 5, 172, 1, 0, 0, 0, 2, 0, 0);
        wrong("a second METHOD that is not there", 9, 2, 0, 0, 0, 3, 16, 5, 172, 0);
        wrong("a byte left over", 9, 1, 0, 0, 0, 3, 16, 5, 172, 0, 1);
        right("4 PARAMETERS, 20 LOCALS", 1, 1, 4, 20, 0, 3, 16, 5, 172, 0);
        int[] one = Files.method(0, 0, Files.code(16, 5, 172));
        right("8 METHODS", 1, Files.file(one, one, one, one, one, one, one, one));
    }

    /** CODE begins at 5, and has one PARAMETER, three LOCALS. */
    private static int[] method(int... code) {
        return Files.file(Files.method(1, 3, code));
    }

    private static void wrongCode() {
        for (int b = 0; b < 256; b++) {
            boolean known = false;
            for (int kind : KINDS) {
                known |= kind == b;
            }
            if (!known) {
                wrong("byte " + b, 8, method(16, 5, 172, b));
            }
        }
        for (int kind : new int[] {16, 17, 21, 54, 153, 158, 167, 168, 184, 188, 190, 46, 79}) {
            wrong("not whole " + kind, 8, method(16, 5, 172, kind));
        }
        wrong("17 of two bytes", 8, method(16, 5, 172, 17, 0));
        wrong("168 of two bytes", 8, method(16, 5, 172, 168, 0));
        right("LOCAL 2", 1, method(21, 2, 172));
        wrong("LOCAL 3", 5, method(21, 3, 172));
        wrong("LOCAL 3 kept", 7, method(16, 0, 54, 3, 16, 0, 172));
        wrong("METHOD 1", 7, method(21, 0, 184, 1, 172));
        for (int kind : new int[] {188, 190, 46, 79}) {
            wrong("ARRAY 4 of " + kind, 8, method(16, 5, 172, kind, 4));
            right("ARRAY 3 of " + kind, 1, method(16, 5, 172, kind, 3));
        }
    }

    /** 0: 16 5, 2: 172, 3: 172; CODE begins at 5, HANDLERS at 10. */
    private static int[] handled(int from, int to, int at, int kind) {
        return Files.file(Files.method(0, 0, Files.code(16, 5, 172, 172), Files.handler(from, to, at, kind)));
    }

    private static void wrongHandlers() {
        right("HANDLER of a part", 1, handled(0, 2, 3, 4));
        right("HANDLER to the end", 1, handled(3, 4, 3, 0));
        wrong("FROM in an instruction", 10, handled(1, 2, 3, 0));
        wrong("FROM at the end", 10, handled(4, 5, 3, 0));
        wrong("TO in an instruction", 10, handled(0, 1, 3, 0));
        wrong("TO at FROM", 10, handled(2, 2, 3, 0));
        wrong("TO below FROM", 10, handled(2, 0, 3, 0));
        wrong("TO past the end", 10, handled(0, 5, 3, 0));
        wrong("AT in an instruction", 10, handled(0, 2, 1, 0));
        wrong("AT the end", 10, handled(0, 2, 4, 0));
        wrong("AT far away", 10, handled(0, 2, 65535, 0));
        wrong("KIND 5", 10, handled(0, 2, 3, 5));
        wrong("AT 0", 5, handled(0, 2, 0, 0));
        int[] code = {16, 5, 172, 172};
        int[] good = Files.handler(0, 2, 3, 1);
        wrong("the second HANDLER", 17, Files.file(Files.method(0, 0, code, good, Files.handler(0, 2, 3, 5))));
    }

    private static void wrongJumps() {
        for (int kind : new int[] {153, 154, 155, 156, 157, 158}) {
            right("jump to the beginning by " + kind, 1, method(16, 1, kind, 254, 16, 5, 172, 16, 1, kind, 0, 172));
            wrong("jump into an instruction by " + kind, 7, method(16, 1, kind, 3, 16, 5, 172));
            wrong("jump below 0 by " + kind, 7, method(16, 1, kind, 253, 16, 5, 172));
            wrong("jump to the end by " + kind, 7, method(16, 1, kind, 5, 16, 5, 172));
            wrong("jump past the end by " + kind, 7, method(16, 1, kind, 127, 16, 5, 172));
        }
        right("jump to itself", 0, method(167, 0));
        wrong("jump to the end", 5, method(167, 2));
        wrong("jump below 0", 5, method(167, 255));
        right("long jump to itself", 0, method(168, 0, 0));
        wrong("long jump to the end", 5, method(168, 0, 3));
        wrong("long jump below 0", 5, method(168, 255, 255));
        wrong("long jump far above", 5, method(168, 127, 255));
        wrong("jump that one does not come to", 8, method(16, 5, 172, 167, 254));
    }

    private static void wrongOrder() {
        int[] good = Files.method(0, 0, Files.code(16, 5, 172));
        int[] badCode = Files.method(0, 0, Files.code(16, 5, 1));
        int[] badNumber = Files.method(5, 5, Files.code(16, 5, 172));
        int[] badStack = Files.method(0, 0, Files.code(16, 5, 87));
        int[] badJump = Files.method(0, 0, Files.code(167, 1, 172));
        wrong("CODE before the next METHOD's numbers", 7, Files.file(badCode, badNumber));
        wrong("a METHOD's jump before the next one's numbers", 5, Files.file(badJump, badNumber));
        wrong("numbers before the stack of the METHOD before", 9, Files.file(badStack, badNumber));
        wrong("a byte left over before the stack", 9, Files.join(Files.file(badStack), Files.code(0)));
        wrong("the stack of the second METHOD", 15, Files.file(good, badStack));
        int[] handler = Files.handler(1, 2, 0, 0);
        wrong("HANDLERS' number before CODE", 8, Files.with(Files.file(badCode), 8, 9));
        wrong("HANDLERS' bytes before CODE", 9, Files.with(Files.file(badCode), 8, 1));
        wrong("CODE before HANDLERS", 7, Files.file(Files.method(0, 0, Files.code(16, 5, 1), handler)));
        wrong("HANDLERS before jumps", 9, Files.file(Files.method(0, 0, Files.code(167, 1, 172), handler)));
    }

    private static void wrongDepths() {
        for (int kind : new int[] {87, 89, 116, 172}) {
            wrong("none for " + kind, 5, method(kind, 16, 0, 172));
        }
        for (int kind : new int[] {96, 100, 104, 108, 112, 126, 128, 130}) {
            wrong("one for " + kind, 7, method(16, 0, kind, 172));
            right("two for " + kind, 2, method(16, 0, 16, 0, kind, 172));
        }
        for (int kind : new int[] {54, 153, 154, 155, 156, 157, 158, 188, 46, 184}) {
            wrong("none for " + kind, 5, method(kind, 0, 16, 0, 172));
        }
        wrong("one for 79", 7, method(16, 0, 79, 0, 16, 0, 172));
        right("two for 79", 2, method(16, 0, 16, 0, 79, 0, 16, 0, 172));
        right("none for 0, 190, 191", 1, method(0, 190, 0, 191));
        wrong("past the end", 7, method(16, 5, 87));
        wrong("past the end by a branch", 7, method(16, 5, 153, 254));
        right("what one does not come to", 1, method(16, 5, 172, 87, 87, 96));
        int[] twenty = Files.times(20, 16, 1);
        right("twenty", 20, method(Files.join(twenty, Files.code(172))));
        wrong("twenty-one", 45, method(Files.join(twenty, Files.code(16, 1, 172))));
        wrong("twenty-one by 89", 45, method(Files.join(twenty, Files.code(89, 172))));
        right("greatest is at a place, not behind the last", 0, method(167, 0));
        int[] four = Files.method(4, 4, Files.code(191));
        int[] caller = Files.method(0, 0, Files.code(16, 0, 89, 89, 184, 1, 172));
        wrong("three for four PARAMETERS", 9, Files.file(caller, four));
    }

    private static void wrongDepthPlaces() {
        // 0: 16 1, 2: 153 to 6, 4: 16 1, 6: 16 2, 8: 172: place 6 has 0 by the branch, then 1
        wrong("another depth by going on", 11, method(16, 1, 153, 4, 16, 1, 16, 2, 172));
        // 0: 16 1, 2: 167 to 0
        wrong("another depth by going back", 5, method(16, 1, 167, 254));
        // 0: 0, 1: 16 1, 3: 16 1, 5: 153 to 1; 1 has 0, then 1
        wrong("another depth by a branch back", 6, method(0, 16, 1, 16, 1, 153, 252, 172));
        // 0: 16 1, 2: 0, 3: 172 with AT 2: it has 1 both ways
        int[] fits = Files.method(0, 0, Files.code(16, 1, 0, 172), Files.handler(0, 2, 2, 0));
        right("AT that is gone on to", 1, Files.file(fits));
        // AT 4 has 1, but 2 go on to it
        int[] two = Files.method(0, 0, Files.code(16, 1, 16, 1, 0, 172), Files.handler(0, 2, 4, 0));
        wrong("AT with another depth", 9, Files.file(two));
        // AT 3 is gone on from though no run comes there: 96 takes two
        int[] at = Files.method(0, 0, Files.code(16, 1, 172, 96, 172), Files.handler(0, 2, 3, 0));
        wrong("AT with too few", 8, Files.file(at));
        // 0: 167 to 4, 2: 96 .. , 4: 16 1, 6: 153 to 2, 8: 87; 2 is below 8 and so it is first
        wrong("the least place is first", 7, method(167, 4, 96, 172, 16, 1, 153, 252, 87, 172));
        // 0: 167 to 3, 2: 87, 3: 16 1, 5: 153 to 2, 7: 172 - both 2 and 7 go wrong, 2 is first
        wrong("the least of two", 7, method(167, 3, 87, 16, 1, 153, 253, 172));
        // 5 goes on to 7 and 2, which are AT and have 1, with 0
        int[] both = Files.method(0, 0, Files.code(167, 3, 172, 16, 1, 153, 253, 172),
            Files.handler(0, 2, 2, 0), Files.handler(0, 2, 7, 0));
        wrong("both ways with another depth", 7, Files.file(both));
    }

    private static void greatestSizes() {
        int[] big = Files.file(Files.method(0, 0, Files.join(Files.times(1997, 0), Files.code(16, 5, 172))));
        right("2000 bytes", 1, big);
        int[] first = Files.times(1000, 167, 2);
        first[1999] = 0;
        right("a thousand jumps", 0, Files.file(Files.method(0, 0, first)));
        // the first leads to the last, and each of the others to the one before it
        int[] back = Files.times(998, 167, 254);
        back[1] = 0;
        int[] code = Files.join(Files.code(168, 0x07, 0xCD), back);
        right("jumps back all the way", 0, Files.file(Files.method(0, 0, code)));
    }

    private static void loadKeeps() {
        StepRewriter x = Files.rewritten(FIVE);
        x.run(0, 0, 0, 9);
        x.price(16, 7);
        DUE.is("a wrong FILE", Files.load(x, Files.code(1, 0, 0, 0, 1, 87, 0)), -15);
        DUE.is("the FILE is as it was", x.byteAt(0, false, 1), 5);
        DUE.is("what is REWRITTEN is as it was", x.told(0, true, 0), 8);
        DUE.is("the run is as it was", x.answer(), 5);
        DUE.is("the tape is empty", x.feed(0, 1), 1);
        x.load();
        int[] six = Files.file(Files.method(0, 0, Files.code(16, 6, 172)));
        DUE.is("a right FILE", Files.load(x, six), 1);
        DUE.is("it is the FILE", x.byteAt(0, false, 1), 6);
        DUE.is("nothing is REWRITTEN", x.told(0, true, 0), STATE);
        DUE.is("nothing can be run", x.run(0, 0, 0, 9), STATE);
        DUE.is("nothing can be unwritten", x.unwrite(), STATE);
        DUE.is("the latest run stays", x.answer(), 5);
        DUE.is("its sum stays", x.counted(), 2);
        DUE.is("PRICES stay", x.block(0, 0, 1), 8);
        DUE.is("the tape is empty again", x.load(), -10);
        DUE.is("the FILE is there", x.byteAt(0, false, 1), 6);
    }

    private static void price() {
        StepRewriter x = new StepRewriter();
        for (int kind : KINDS) {
            int first = kind == 184 ? 5 : 1;
            DUE.is("price of " + kind, x.price(kind, 1000), first);
            DUE.is("price of " + kind + " again", x.price(kind, 0), 1000);
            DUE.is("price -1 of " + kind, x.price(kind, -1), BAD);
            DUE.is("price 1001 of " + kind, x.price(kind, 1001), BAD);
            DUE.is("price of " + kind + " stayed", x.price(kind, first), 0);
        }
        for (int kind : new int[] {202, 203, 1, 15, 152, 159, 166, 169, 255, 256, 256 + 16, -1, -240,
            Integer.MIN_VALUE}) {
            DUE.is("price of " + kind, x.price(kind, 1), BAD);
        }
        x = Files.rewritten(FIVE);
        DUE.is("SUM", x.block(0, 0, 1), 2);
        x.price(172, 300);
        DUE.is("SUM by the PRICES now", x.block(0, 0, 1), 301);
        DUE.is("REWRITTEN before", x.byteAt(0, true, 4), 2);
        x.run(0, 0, 0, 1000);
        DUE.is("PAID before", x.counted(), 2);
        x.rewrite();
        DUE.is("REWRITTEN then, third byte", x.byteAt(0, true, 3), 1);
        DUE.is("REWRITTEN then, last byte", x.byteAt(0, true, 4), 45);
        x.run(0, 0, 0, 1000);
        DUE.is("PAID then", x.counted(), 301);
    }

    private static void clear() {
        int[] makes = Files.file(Files.method(0, 0, Files.code(16, 5, 188, 1, 16, 9, 172)));
        StepRewriter x = Files.rewritten(makes);
        x.run(0, 0, 0, 100);
        DUE.is("an ARRAY before", x.element(1, -1), 5);
        DUE.is("answer before", x.answer(), 9);
        x.price(184, 7);
        x.price(0, 7);
        x.feed(1, 5);
        x.clear();
        newObject(x, "cleared");
        x.load();
        DUE.is("used again", Files.load(x, FIVE), 1);
        DUE.is("rewritten again", x.rewrite(), 8);
    }
}
