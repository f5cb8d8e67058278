import java.util.ArrayList;
import java.util.List;
import java.util.Random;

/** FILES by chance: each place is given a depth, and jumps lead only to places that have theirs. */
final class Programs {
    private static final int[] PLAIN = {0, 16, 17, 21, 54, 87, 89, 96, 100, 104, 108, 112, 116, 126,
        128, 130, 184, 188, 190, 46, 79, 16, 21, 16, 21};
    private final Random chance;
    private final List<Integer> code = new ArrayList<>();
    private final List<int[]> places = new ArrayList<>();
    private final List<int[]> jumps = new ArrayList<>();
    private int depth;
    private int[] parameters;

    Programs(Random chance) {
        this.chance = chance;
    }

    int[] file(int most) {
        int n = 1 + chance.nextInt(chance.nextInt(3) == 0 ? 8 : 3);
        parameters = new int[n];
        for (int m = 0; m < n; m++) {
            parameters[m] = chance.nextInt(5);
        }
        int[][] methods = new int[n][];
        for (int m = 0; m < n; m++) {
            methods[m] = method(parameters[m], 1 + chance.nextInt(Math.max(1, most / n)));
        }
        return Files.file(methods);
    }

    private int[] method(int own, int size) {
        code.clear();
        places.clear();
        jumps.clear();
        depth = 0;
        int locals = own + chance.nextInt(21 - own);
        int jumpy = chance.nextInt(60);
        int ceiling = chance.nextInt(4) == 0 ? 20 : 6;
        while (code.size() < size) {
            places.add(new int[] {code.size(), depth});
            if (chance.nextInt(100) < jumpy) {
                jumpOrEnd();
            } else {
                plain(PLAIN[chance.nextInt(PLAIN.length)], locals, ceiling);
            }
        }
        if (depth == 0) {
            places.add(new int[] {code.size(), depth});
            add(16, chance.nextInt(256));
            depth++;
        }
        places.add(new int[] {code.size(), depth});
        add(172);
        for (int[] jump : jumps) {
            lead(jump);
        }
        int[] bytes = code.stream().mapToInt(i -> i & 255).toArray();
        return Files.method(own, locals, bytes, handlers(bytes.length));
    }

    private void add(int... bytes) {
        for (int b : bytes) {
            code.add(b);
        }
    }

    private void jumpOrEnd() {
        int at = code.size();
        int which = chance.nextInt(12);
        if (which < 7 && depth > 0) {
            add(153 + chance.nextInt(6), 0);
            depth--;
            jumps.add(new int[] {at, depth});
        } else if (which < 9) {
            add(167, 0);
            jumps.add(new int[] {at, depth});
            depth = chance.nextInt(3);
        } else if (which < 10) {
            add(168, 0, 0);
            jumps.add(new int[] {at, depth});
            depth = chance.nextInt(3);
        } else if (depth > 0 && chance.nextInt(4) > 0) {
            add(172);
            depth = chance.nextInt(3);
        } else if (chance.nextInt(4) == 0) {
            add(191);
            depth = chance.nextInt(3);
        } else {
            add(0);
        }
    }

    private void plain(int kind, int locals, int ceiling) {
        int callee = chance.nextInt(parameters.length);
        int takes = kind == 184 ? parameters[callee]
            : kind == 79 || kind >= 96 && kind <= 130 && kind != 116 ? 2
            : kind == 0 || kind == 16 || kind == 17 || kind == 21 || kind == 190 ? 0 : 1;
        int gives = kind == 0 || kind == 54 || kind == 87 || kind == 188 || kind == 79 ? 0 : kind == 89 ? 2 : 1;
        boolean noLocal = (kind == 21 || kind == 54) && locals == 0;
        if (depth < takes || depth - takes + gives > ceiling || noLocal) {
            add(0);
            return;
        }
        depth += gives - takes;
        add(kind);
        switch (kind) {
            case 16 -> add(chance.nextInt(3) == 0 ? chance.nextInt(256) : chance.nextInt(6) & 255);
            case 17 -> add(chance.nextInt(2) == 0 ? chance.nextInt(5) : chance.nextInt(256), chance.nextInt(256));
            case 21, 54 -> add(chance.nextInt(locals));
            case 184 -> add(callee);
            case 188, 190, 46, 79 -> add(chance.nextInt(4));
            default -> { }
        }
    }

    private void lead(int[] jump) {
        int at = jump[0];
        boolean wide = code.get(at) == 168;
        boolean forward = chance.nextInt(4) > 0;
        boolean far = chance.nextBoolean();
        List<Integer> ways = new ArrayList<>();
        for (int[] place : places) {
            int way = place[0] - at;
            boolean fits = wide || way >= -128 && way <= 127;
            boolean side = !forward || way > 0;
            boolean length = !far || Math.abs(way) > 60;
            if (place[1] == jump[1] && fits && side && length) {
                ways.add(way);
            }
        }
        if (ways.isEmpty()) {
            // the same bytes and the same depth behind them, but no jump
            code.set(at, code.get(at) >= 167 ? 191 : 87);
            return;
        }
        int way = ways.get(chance.nextInt(ways.size()));
        code.set(at + 1, wide ? way >> 8 : way);
        if (wide) {
            code.set(at + 2, way);
        }
    }

    private int[][] handlers(int length) {
        List<int[]> all = new ArrayList<>();
        List<Integer> ones = new ArrayList<>();
        for (int[] place : places) {
            if (place[1] == 1 && place[0] > 0) {
                ones.add(place[0]);
            }
        }
        int n = chance.nextInt(3) == 0 ? chance.nextInt(9) : chance.nextInt(3);
        for (int k = 0; k < n && !ones.isEmpty(); k++) {
            int i = chance.nextInt(places.size());
            int j = i + 1 + chance.nextInt(places.size() - i);
            int to = j == places.size() ? length : places.get(j)[0];
            int at = ones.get(chance.nextInt(ones.size()));
            all.add(Files.handler(places.get(i)[0], to, at, chance.nextInt(5)));
        }
        return all.toArray(new int[0][]);
    }
}
