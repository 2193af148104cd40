/** Pictures that tests begin with. */
final class House {
    static final int NONE = -1, BAD = -2, FULL = -3, LACKING = -11, BEYOND = -12, OPEN = -13, UNFIT = -14;
    static final int NOT = -15, EMPTY = -16, GREAT = -17, MANY = -18, SPENT = -19;

    static final int[] TREFOIL = {3, 5, 11, 1, 7, 9, -1, -2};
    static final int[] HOPF = {1, 7, -1, 3, 5, -1, -2};
    static final int[] UNLINK = {1, 4, -1, 3, 6, -1, -2};
    static final int[] FIGURE_EIGHT = {3, 5, 10, 12, 7, 1, 14, 8, -1, -2};
    static final int[] CIRCLE = {-3};

    private House() {
    }

    static int knot(KnotTable x, int... row) {
        x.clear();
        for (int v : row) {
            x.type(v);
        }
        return x.ofGauss();
    }

    /** The trefoil, or another closed braid of two strands, with n CROSSINGS. */
    static int braid(KnotTable x, int n) {
        int p = x.picture();
        for (int c = 0; c < n; c++) {
            int low = 2 * c;
            int next = 2 * ((c + 1) % n);
            x.crossing(p, low, next, next + 1, low + 1);
        }
        return p;
    }

    /** A picture of so many kinks on one strand. */
    static int kinks(KnotTable x, int n) {
        int p = x.picture();
        for (int c = 0; c < n; c++) {
            int in = 2 * c;
            int out = 2 * ((c + 1) % n);
            x.crossing(p, in, in + 1, in + 1, out);
        }
        return p;
    }

    static boolean has(KnotTable x, int p, int c, int... arcs) {
        for (int i = 0; i < 4; i++) {
            if (x.end(p, c, i) != arcs[i]) {
                return false;
            }
        }
        return true;
    }

    static String row(KnotTable x, int p, int c) {
        StringBuilder told = new StringBuilder();
        for (int i = 0; i < 4; i++) {
            told.append(i == 0 ? "" : " ").append(x.end(p, c, i));
        }
        return told.toString();
    }
}
