/** Asks about several answers at once, in the way that more than one test needs. */
final class Ask {
    static final int ENDED = 0, STOPPED = 1, THROWN = 2;
    private final Due due;

    Ask(Due due) {
        this.due = due;
    }

    /** The arguments of a run(). */
    static int[] told(int m, int x, int y, int limit) {
        return new int[] {m, x, y, limit};
    }

    void run(String what, StepRewriter x, int[] told, int outcome, int answer, int counted, int steps) {
        due.is(what + ", run", x.run(told[0], told[1], told[2], told[3]), outcome);
        due.is(what + ", answer", x.answer(), answer);
        due.is(what + ", counted", x.counted(), counted);
        due.is(what + ", steps", x.steps(), steps);
    }

    /** CODE, run as rewritten with x and y, ends with an answer. */
    void ends(String what, int x, int y, int answer, int... code) {
        StepRewriter r = Files.rewritten(Files.alone(code));
        due.is(what + ", run", r.run(0, x, y, 100000), ENDED);
        due.is(what + ", answer", r.answer(), answer);
    }

    /** The whole CODE of a METHOD, and that nothing is behind it. */
    void bytes(String what, StepRewriter x, int m, boolean written, int... want) {
        due.is(what + ", bytes", x.told(m, written, 0), want.length);
        for (int i = 0; i < want.length; i++) {
            due.is(what + ", byte " + i, x.byteAt(m, written, i), want[i] & 255);
        }
        due.is(what + ", byte -1", x.byteAt(m, written, -1), StepRewriter.BAD);
        due.is(what + ", byte at the end", x.byteAt(m, written, want.length), StepRewriter.BAD);
    }

    void handler(String what, StepRewriter x, int m, boolean written, int k, int... want) {
        for (int i = 0; i < want.length; i++) {
            due.is(what + ", HANDLER " + k + ", " + i, x.handler(m, written, k, i), want[i]);
        }
    }
}
