import java.io.ByteArrayOutputStream;

/** Builds FILES byte by byte and feeds them. */
final class Files {
    private Files() {
    }

    static int[] code(int... bytes) {
        return bytes;
    }

    static int[] handler(int from, int to, int at, int kind) {
        return new int[] {from, to, at, kind};
    }

    static int[] method(int parameters, int locals, int[] code, int[]... handlers) {
        ByteArrayOutputStream out = new ByteArrayOutputStream();
        out.write(parameters);
        out.write(locals);
        pair(out, code.length);
        for (int b : code) {
            out.write(b);
        }
        out.write(handlers.length);
        for (int[] h : handlers) {
            pair(out, h[0]);
            pair(out, h[1]);
            pair(out, h[2]);
            out.write(h[3]);
        }
        return ints(out);
    }

    static int[] file(int[]... methods) {
        return join(code(methods.length), join(methods));
    }

    /** A FILE of one METHOD with two PARAMETERS, three LOCALS and no HANDLERS. */
    static int[] alone(int... code) {
        return file(method(2, 3, code));
    }

    static int[] join(int[]... parts) {
        ByteArrayOutputStream out = new ByteArrayOutputStream();
        for (int[] part : parts) {
            for (int b : part) {
                out.write(b);
            }
        }
        return ints(out);
    }

    /** The same bytes again and again. */
    static int[] times(int n, int... bytes) {
        int[] all = new int[n * bytes.length];
        for (int i = 0; i < all.length; i++) {
            all[i] = bytes[i % bytes.length] & 255;
        }
        return all;
    }

    static int[] with(int[] file, int place, int b) {
        int[] other = file.clone();
        other[place] = b;
        return other;
    }

    static int[] first(int[] file, int n) {
        return java.util.Arrays.copyOf(file, n);
    }

    static void feed(StepRewriter x, int[] bytes) {
        for (int i = 0; i < bytes.length; i += 8) {
            int n = Math.min(8, bytes.length - i);
            long w = 0;
            for (int k = 0; k < n; k++) {
                w = w << 8 | bytes[i + k] & 255;
            }
            x.feed(w, n);
        }
    }

    static int load(StepRewriter x, int[] bytes) {
        feed(x, bytes);
        return x.load();
    }

    /** A new object that has the FILE. */
    static StepRewriter loaded(int[] bytes) {
        StepRewriter x = new StepRewriter();
        int methods = load(x, bytes);
        if (methods < 1) {
            throw new IllegalStateException("the test's FILE is not right: " + methods);
        }
        return x;
    }

    static StepRewriter rewritten(int[] bytes) {
        StepRewriter x = loaded(bytes);
        x.rewrite();
        return x;
    }

    private static void pair(ByteArrayOutputStream out, int v) {
        out.write(v >> 8);
        out.write(v);
    }

    private static int[] ints(ByteArrayOutputStream out) {
        byte[] bytes = out.toByteArray();
        int[] all = new int[bytes.length];
        for (int i = 0; i < all.length; i++) {
            all[i] = bytes[i] & 255;
        }
        return all;
    }
}
