import java.util.Arrays;

/** The draws that the document tells, and seeds for draws that a test wants. */
final class Draws {
    private int x;

    Draws(int seed) {
        x = seed;
    }

    int of(int n) {
        x = x * 1103515245 + 12345;
        return (x >>> 8) % n;
    }

    /** The least seed from 0 on that draws these: each pair is how many there are and which of them. */
    static int seedFor(int... pairs) {
        for (int seed = 0; seed < 50_000_000; seed++) {
            Draws draws = new Draws(seed);
            boolean fits = true;
            for (int i = 0; i < pairs.length && fits; i += 2) {
                fits = draws.of(pairs[i]) == pairs[i + 1];
            }
            if (fits) {
                return seed;
            }
        }
        throw new IllegalStateException("no seed draws them");
    }

    /** The steps between n finds that lay in one cell of a field of so many by so many, 0 DEEP, and were ploughed three times. */
    static int ploughedSpread(int seed, int n, int side, int column, int row) {
        int[] stepX = {0, 1, -1, 0, 0};
        int[] stepY = {0, 0, 0, 1, -1};
        Draws draws = new Draws(seed);
        int[] xs = new int[n];
        int[] ys = new int[n];
        Arrays.fill(xs, column);
        Arrays.fill(ys, row);
        for (int i = 0; i < 3 * n; i++) {
            int way = draws.of(5);
            draws.of(3);
            int newX = xs[i % n] + stepX[way];
            int newY = ys[i % n] + stepY[way];
            if (newX >= 0 && newX < side && newY >= 0 && newY < side) {
                xs[i % n] = newX;
                ys[i % n] = newY;
            }
        }
        int steps = 0;
        for (int f = 0; f < n; f++) {
            for (int g = 0; g < f; g++) {
                steps += Math.abs(xs[f] - xs[g]) + Math.abs(ys[f] - ys[g]);
            }
        }
        return steps;
    }
}
