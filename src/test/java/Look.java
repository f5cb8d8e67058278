import java.util.Arrays;

/**
 * What an object of a small FILE tells without being changed, so that two looks can be compared. A look
 * is some 150 calls: three of them fit into the 512 that an object is used for.
 */
final class Look {
    private final int[] answers;

    private Look(int[] answers) {
        this.answers = answers;
    }

    static Look at(StepRewriter x) {
        int[] all = new int[512];
        int n = 0;
        for (int m = 0; m < 2; m++) {
            for (boolean written : new boolean[] {false, true}) {
                for (int what = 0; what < 6; what++) {
                    all[n++] = x.told(m, written, what);
                }
                for (int i = 0; i < 20; i++) {
                    all[n++] = x.byteAt(m, written, i);
                }
                for (int what = 0; what < 4; what++) {
                    all[n++] = x.handler(m, written, 0, what);
                }
            }
            for (int i = 0; i < 6; i++) {
                all[n++] = x.block(m, i / 2, i % 2);
            }
        }
        all[n++] = x.answer();
        all[n++] = x.counted();
        all[n++] = x.steps();
        for (int a = 0; a < 4; a++) {
            for (int i = -1; i < 4; i++) {
                all[n++] = x.element(a, i);
            }
        }
        return new Look(Arrays.copyOf(all, n));
    }

    /** How many answers are others than those of another look. */
    int differs(Look other) {
        int n = 0;
        for (int i = 0; i < answers.length; i++) {
            n += answers[i] == other.answers[i] ? 0 : 1;
        }
        return n;
    }
}
