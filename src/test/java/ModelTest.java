import java.util.Random;

/** Many calls by chance (the same ones each time), each answered as the Model answers it. */
public final class ModelTest {
    private static final int[] KINDS = {0, 16, 17, 21, 54, 87, 89, 96, 100, 104, 108, 112, 116, 126, 128,
        130, 153, 154, 155, 156, 157, 158, 167, 168, 172, 184, 188, 190, 46, 79, 191, 202, 203, 1, -1, 256};
    private final Due due = new Due("ModelTest");
    private final Random chance;
    private StepRewriter x;
    private Model y;
    private int seed;
    private final int[] seen = new int[8];

    private ModelTest(int seed) {
        this.seed = seed;
        chance = new Random(seed);
    }

    public static void main(String[] args) {
        int objects = args.length > 0 ? Integer.parseInt(args[0]) : 250;
        int seed = args.length > 1 ? Integer.parseInt(args[1]) : 1;
        ModelTest test = new ModelTest(seed);
        for (int i = 0; i < objects && test.due.wrong() == 0; i++) {
            test.object(i);
        }
        String[] names = {"ended", "stopped", "thrown", "right", "not right", "too big", "long", "stopped by steps"};
        for (int i = 0; i < names.length; i++) {
            System.out.println("  " + names[i] + ": " + test.seen[i]);
            test.due.is("seen " + names[i], test.seen[i] > 0 ? 1 : 0, 1);
        }
        test.due.end();
    }

    private void is(String call, long got, long want) {
        due.is("object " + seed + ": " + call, got, want);
    }

    private void object(int number) {
        seed = number;
        x = new StepRewriter();
        y = new Model();
        int files = 1 + chance.nextInt(2);
        for (int f = 0; f < files; f++) {
            int most = chance.nextInt(12) == 0 ? 4000 : chance.nextInt(3) == 0 ? 800 : 120;
            int[] file = new Programs(chance).file(most);
            wrongFiles(file, 10);
            feed(file);
            load();
            int calls = 15 + chance.nextInt(25);
            for (int c = 0; c < calls; c++) {
                call();
            }
        }
    }

    private void wrongFiles(int[] file, int n) {
        for (int k = 0; k < n; k++) {
            int place = chance.nextInt(file.length);
            switch (chance.nextInt(5)) {
                case 0 -> feed(Files.first(file, place));
                case 1 -> feed(Files.join(file, Files.code(chance.nextInt(256))));
                default -> {
                    int[] other = Files.with(file, place, by(file[place]));
                    int also = chance.nextInt(file.length);
                    feed(chance.nextInt(4) > 0 ? other : Files.with(other, also, by(file[also])));
                }
            }
            load();
        }
    }

    private int by(int b) {
        int way = chance.nextInt(3);
        return way == 0 ? chance.nextInt(256) : way == 1 ? KINDS[chance.nextInt(33)] : b + chance.nextInt(5) - 2 & 255;
    }

    private void feed(int[] bytes) {
        for (int i = 0; i < bytes.length; ) {
            int n = Math.min(1 + chance.nextInt(8), bytes.length - i);
            long w = chance.nextLong();
            for (int k = 0; k < n; k++) {
                w = w << 8 | bytes[i + k];
            }
            is("feed", x.feed(w, n), y.feed(w, n));
            i += n;
        }
    }

    private void load() {
        int got = y.load();
        is("load", x.load(), got);
        seen[got > 0 ? 3 : 4]++;
        if (got > 0) {
            all(false);
        }
    }

    private void all(boolean written) {
        for (int m = 0; m < 9; m++) {
            for (int what = -1; what < 7; what++) {
                is("told", x.told(m, written, what), y.told(m, written, what));
            }
            int length = Math.max(0, y.told(m, written, 0));
            for (int i = -1; i <= length; i++) {
                is("byteAt", x.byteAt(m, written, i), y.byteAt(m, written, i));
            }
            int handlers = Math.max(0, y.told(m, written, 2));
            for (int k = -1; k <= handlers; k++) {
                for (int what = -1; what < 5; what++) {
                    is("handler", x.handler(m, written, k, what), y.handler(m, written, k, what));
                }
            }
            int blocks = Math.max(0, y.told(m, false, 1));
            for (int k = -1; k <= blocks && length < 1000; k++) {
                for (int what = -1; what < 3; what++) {
                    is("block", x.block(m, k, what), y.block(m, k, what));
                }
            }
            seen[6] += Math.max(0, y.told(m, true, 3));
        }
    }

    private void call() {
        switch (chance.nextInt(9)) {
            case 0, 1 -> {
                int kind = KINDS[chance.nextInt(KINDS.length)];
                int v = chance.nextInt(3) == 0 ? 0
                    : chance.nextInt(4) == 0 ? chance.nextInt(1003) - 1 : chance.nextInt(9);
                is("price", x.price(kind, v), y.price(kind, v));
            }
            case 2, 3 -> rewrite();
            case 4 -> {
                if (chance.nextInt(2) == 0) {
                    is("unwrite", x.unwrite(), y.unwrite());
                    all(false);
                    all(true);
                }
            }
            case 5 -> {
                if (chance.nextInt(30) == 0) {
                    x.clear();
                    y.clear();
                    all(false);
                    all(true);
                    latest();
                } else if (chance.nextInt(10) == 0) {
                    int n = chance.nextInt(11) - 1;
                    is("feed", x.feed(7L, n), y.feed(7L, n));
                } else if (chance.nextInt(20) == 0) {
                    load();
                }
            }
            default -> run();
        }
    }

    private void rewrite() {
        int got = y.rewrite();
        is("rewrite", x.rewrite(), got);
        seen[5] += got <= -10 ? 1 : 0;
        all(true);
    }

    private void run() {
        int m = chance.nextInt(10) == 0 ? chance.nextInt(11) - 1 : chance.nextInt(Math.max(1, methods()));
        int limit = chance.nextInt(8) == 0 ? chance.nextInt(100005) - 2
            : chance.nextInt(4) == 0 ? 100000 : chance.nextInt(400);
        int a = chance.nextInt(4) == 0 ? chance.nextInt() : chance.nextInt(20) - 4;
        int b = chance.nextInt(4) == 0 ? chance.nextInt(1100) : chance.nextInt(20) - 4;
        int got = y.run(m, a, b, limit);
        is("run", x.run(m, a, b, limit), got);
        if (got >= 0) {
            seen[got]++;
            seen[7] += got == 1 && y.steps() == 20000 ? 1 : 0;
        }
        latest();
    }

    private int methods() {
        int n = 0;
        while (n < 8 && y.told(n, false, 0) > 0) {
            n++;
        }
        return n;
    }

    private void latest() {
        is("answer", x.answer(), y.answer());
        is("counted", x.counted(), y.counted());
        is("steps", x.steps(), y.steps());
        for (int a = -1; a < 5; a++) {
            int n = Math.max(0, y.element(a, -1));
            is("element", x.element(a, -1), y.element(a, -1));
            for (int i = -2; i <= n; i += 1 + (n > 40 ? chance.nextInt(30) : 0)) {
                is("element", x.element(a, i), y.element(a, i));
            }
        }
    }
}
