import java.util.Arrays;
import java.util.Random;

/** TWIST, POKE, SLIDE, FLYPE change a picture and not the knot: its numbers stay as they are. */
public final class InvarianceTest {
    private static final Due due = new Due();
    private static final int[] BY = {3, 5, 7, 11};
    private static final int[] done = new int[8];

    private static String numbersOf(KnotTable x, int p) {
        StringBuilder told = new StringBuilder();
        told.append(x.open(p)).append(' ').append(x.told(p, 2));
        for (int m : BY) {
            told.append(' ').append(x.colours(p, m));
        }
        told.append(" determinant ").append(x.determinant(p));
        if (x.told(p, 2) == 1) {
            x.polynomial(p);
            for (int k = x.power(0); k <= x.power(1); k++) {
                told.append(' ').append(x.at(k));
            }
            told.append(" from ").append(x.power(0));
        }
        return told.toString();
    }

    /** One MOVE that may be done or undone, tried at random; whether one was found. */
    private static boolean oneMove(KnotTable x, int p, Random random) {
        int n = x.told(p, 0);
        int kind = random.nextInt(4);
        boolean back = random.nextInt(2) == 0;
        if (!back && kind < 2 && n > 8 || kind == 3 && n < 2) {
            return false;
        }
        int a = random.nextInt(4 * n + 1) - 1;
        int b = kind == 0 ? random.nextInt(4) : kind == 3 ? random.nextInt(1 << n) : random.nextInt(4 * n + 1);
        int m = x.move(kind, a, b, random.nextInt(2));
        if (m < 0 || (back ? x.undoes(p, m) : x.does(p, m)) != 1) {
            return false;
        }
        done[2 * kind + (back ? 1 : 0)]++;
        return true;
    }

    private static void walk(int[] knot, long seed) {
        Random random = new Random(seed);
        int[] row = knot;
        String before = null;
        for (int stage = 0; stage < 30; stage++) {
            KnotTable x = new KnotTable();
            for (int v : row) {
                x.type(v);
            }
            int p = x.ofGauss();
            due.is("ofGauss() of " + Arrays.toString(row), p, 0);
            before = before == null ? numbersOf(x, p) : before;
            boolean moved = false;
            for (int k = 0; k < 60 && !moved; k++) {
                moved = oneMove(x, p, random);
            }
            String after = numbersOf(x, p);
            due.holds("before: " + before + " after: " + after + " of " + Arrays.toString(row), before.equals(after));
            row = new int[x.gauss(p)];
            for (int k = 0; k < row.length; k++) {
                row[k] = x.item(k);
            }
        }
    }

    public static void main(String[] args) {
        for (int k = 1; k < OracleTest.KNOTS.length; k++) {
            for (long seed = 0; seed < 12; seed++) {
                walk(OracleTest.KNOTS[k], 100 * k + seed);
            }
        }
        for (int k = 0; k < done.length; k++) {
            due.holds("moves of sort " + k + " were done: " + Arrays.toString(done), done[k] > 0);
        }
        due.end("InvarianceTest");
    }
}
