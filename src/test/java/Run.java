import java.util.ArrayList;
import java.util.Arrays;
import java.util.List;

/**
 * A KnotTable whose calls are counted and written down: what is not as due is told with the calls that led
 * to it, and a test that goes beyond the calls that the document speaks of is wrong itself.
 */
final class Run {
    static final int NONE = -1, BAD = -2, FULL = -3, LACKING = -11, BEYOND = -12, OPEN = -13, UNFIT = -14;
    static final int NOT = -15, EMPTY = -16, GREAT = -17, MANY = -18, SPENT = -19;
    static final int TWIST = 0, POKE = 1, SLIDE = 2, FLYPE = 3, SMOOTH = 4, CHANGE = 5;
    static final int MOST_CALLS = 512, MOST_TOLD = 16;
    static final int[] FAR = {Integer.MIN_VALUE, Integer.MIN_VALUE + 1, Integer.MAX_VALUE - 1, Integer.MAX_VALUE};
    static final int[][] TREFOIL = {{2, 0, 3, 5}, {0, 4, 1, 3}, {4, 2, 5, 1}};
    static final int[][] FIGURE_EIGHT = {{4, 0, 5, 7}, {0, 4, 1, 3}, {6, 1, 7, 2}, {2, 5, 3, 6}};
    /** The trefoil, one strand of it laid under another by POKE: the REGION of END 0 can be slid. */
    static final int[][] POKED = {{2, 0, 3, 5}, {0, 9, 1, 3}, {4, 7, 5, 1}, {2, 8, 6, 9}, {7, 4, 6, 8}};
    /** Two circles, the one on the other: POKE can be undone at each END. */
    static final int[][] UNLINK = {{1, 2, 0, 3}, {0, 2, 1, 3}};
    static final Due due = new Due();
    private static final List<String> LEAVE_STATUS = Arrays.asList("status", "findings", "trace", "where", "parted",
            "count", "item", "at", "way");

    private final KnotTable table = new KnotTable();
    private final List<String> log = new ArrayList<>();
    private String latest = "";
    private boolean pastTheLast;

    // ---- what is due

    /** The latest call is not refused, and answers so. */
    void is(long got, long want) {
        boolean asDue = got == want;
        hold(asDue, "answered " + got + ", due is " + want);
        if (!LEAVE_STATUS.contains(latest)) {
            int status = table.status();
            said("status", status);
            hold(status == 0, "left status() " + status + ", due is 0");
        }
    }

    /** The latest call is refused, and for this reason. */
    void no(long got, int why) {
        hold(got == why, "answered " + got + ", refused is due: " + why);
        int status = table.status();
        said("status", status);
        hold(status == why, "left status() " + status + ", due is " + why);
    }

    void hold(boolean so, String what) {
        due.holds((log.isEmpty() ? "a new object" : log.get(log.size() - 1)) + ": " + what, so);
        if (!so) {
            System.out.println("    behind " + log.subList(Math.max(0, log.size() - MOST_TOLD), log.size()));
        }
    }

    /** A PICTURE has so many LOOSE circles, and these ROWS. */
    void looks(int p, int loose, String... rows) {
        is(told(p, 0), rows.length);
        is(told(p, 1), loose);
        for (int c = 0; c < rows.length; c++) {
            String row = "";
            for (int i = 0; i < 4; i++) {
                row += (i == 0 ? "" : " ") + end(p, c, i);
            }
            hold(row.equals(rows[c]), "row " + c + " of " + p + " is " + row + ", due is " + rows[c]);
        }
    }

    // ---- how calls are counted

    int calls() {
        return log.size();
    }

    /** For the one test of what comes behind the last call. */
    void goPastTheLast() {
        pastTheLast = true;
    }

    /** Asks what changes nothing until so many calls have been made. */
    void waste(int calls) {
        while (calls() < calls) {
            count(0);
        }
    }

    private long said(String name, long answer, long... numbers) {
        if (!name.equals("status")) {
            latest = name;
        }
        String with = Arrays.toString(numbers);
        log.add(name + "(" + with.substring(1, with.length() - 1) + ") = " + answer);
        if (log.size() > MOST_CALLS && !pastTheLast) {
            throw new IllegalStateException("this test goes beyond " + MOST_CALLS + " calls");
        }
        return answer;
    }

    // ---- pictures to begin with

    int rows(int[]... rows) {
        int p = picture();
        for (int[] row : rows) {
            crossing(p, row[0], row[1], row[2], row[3]);
        }
        return p;
    }

    int knot(int... row) {
        clear();
        for (int v : row) {
            type(v);
        }
        return ofGauss();
    }

    int circles(int n) {
        int p = picture();
        loose(p, n);
        return p;
    }

    /** One circle with n kinks, each of SIGN -1, all on one side. */
    int kinks(int n) {
        int p = picture();
        for (int c = 0; c < n; c++) {
            crossing(p, 2 * c, 2 * c + 1, 2 * c + 1, 2 * ((c + 1) % n));
        }
        return p;
    }

    /** n circles with a kink each. */
    int parts(int n) {
        int p = picture();
        for (int c = 0; c < n; c++) {
            crossing(p, 2 * c, 2 * c + 1, 2 * c + 1, 2 * c);
        }
        return p;
    }

    /** Two strands that go round each other n times, closed. */
    int braid(int n) {
        int p = picture();
        for (int c = 0; c < n; c++) {
            int next = 2 * ((c + 1) % n);
            crossing(p, 2 * c, next, next + 1, 2 * c + 1);
        }
        return p;
    }

    /** A PICTURE that is OPEN by 3. */
    int openOne() {
        return rows(new int[] {0, 1, 2, 3});
    }

    void fillPictures(int n) {
        while (count(0) < n) {
            picture();
        }
    }

    /** Makes BRACKETS until all WORK but so much is spent; it needs a call for each, 61 for nearly all. */
    void spendAllBut(int left) {
        int big = kinks(14);
        int rest = 1000000 - count(4) - left;
        for (; rest >= 1 << 14; rest -= 1 << 14) {
            determinant(big);
        }
        for (int n = 13; n >= 0; n--) {
            if ((rest >> n & 1) == 1) {
                determinant(n == 0 ? circles(1) : kinks(n));
            }
        }
        is(count(4), 1000000 - left);
    }

    int may(int p, int kind, int a, int b, int c) {
        return may(p, move(kind, a, b, c));
    }

    int does(int p, int kind, int a, int b, int c) {
        return does(p, move(kind, a, b, c));
    }

    int undoes(int p, int kind, int a, int b, int c) {
        return undoes(p, move(kind, a, b, c));
    }

    // ---- the calls

    int picture() {
        return (int) said("picture", table.picture());
    }

    int crossing(int p, int a, int b, int c, int d) {
        return (int) said("crossing", table.crossing(p, a, b, c, d), p, a, b, c, d);
    }

    int row(int p, int c, int n) {
        return (int) said("row", table.row(p, c, n), p, c, n);
    }

    int end(int p, int c, int i) {
        return (int) said("end", table.end(p, c, i), p, c, i);
    }

    int put(int p, int c, int i, int arc) {
        return (int) said("put", table.put(p, c, i, arc), p, c, i, arc);
    }

    int copy(int p, int c, int from, int q, int d, int to, int n) {
        return (int) said("copy", table.copy(p, c, from, q, d, to, n), p, c, from, q, d, to, n);
    }

    int loose(int p, int n) {
        return (int) said("loose", table.loose(p, n), p, n);
    }

    int open(int p) {
        return (int) said("open", table.open(p), p);
    }

    int where() {
        return (int) said("where", table.where());
    }

    int told(int p, int what) {
        return (int) said("told", table.told(p, what), p, what);
    }

    int mirror(int p) {
        return (int) said("mirror", table.mirror(p), p);
    }

    int turn(int p) {
        return (int) said("turn", table.turn(p), p);
    }

    int join(int p, int a, int q, int b) {
        return (int) said("join", table.join(p, a, q, b), p, a, q, b);
    }

    int twin(int p) {
        return (int) said("twin", table.twin(p), p);
    }

    int undo(int p) {
        return (int) said("undo", table.undo(p), p);
    }

    int sign(int p, int c) {
        return (int) said("sign", table.sign(p, c), p, c);
    }

    int pieceOf(int p, int end) {
        return (int) said("pieceOf", table.pieceOf(p, end), p, end);
    }

    int linking(int p, int i, int j) {
        return (int) said("linking", table.linking(p, i, j), p, i, j);
    }

    int colours(int p, int m) {
        return (int) said("colours", table.colours(p, m), p, m);
    }

    int bracket(int p) {
        return (int) said("bracket", table.bracket(p), p);
    }

    int polynomial(int p) {
        return (int) said("polynomial", table.polynomial(p), p);
    }

    long at(int power) {
        return said("at", table.at(power), power);
    }

    int power(int what) {
        return (int) said("power", table.power(what), what);
    }

    long determinant(int p) {
        return said("determinant", table.determinant(p), p);
    }

    int gauss(int p) {
        return (int) said("gauss", table.gauss(p), p);
    }

    int type(int v) {
        return (int) said("type", table.type(v), v);
    }

    int clear() {
        return (int) said("clear", table.clear());
    }

    int item(int k) {
        return (int) said("item", table.item(k), k);
    }

    int ofGauss() {
        return (int) said("ofGauss", table.ofGauss());
    }

    int move(int kind, int a, int b, int c) {
        return (int) said("move", table.move(kind, a, b, c), kind, a, b, c);
    }

    int tells(int m, int what) {
        return (int) said("tells", table.tells(m, what), m, what);
    }

    int as(int m, int kind) {
        return (int) said("as", table.as(m, kind), m, kind);
    }

    int may(int p, int m) {
        return (int) said("may", table.may(p, m), p, m);
    }

    int does(int p, int m) {
        return (int) said("does", table.does(p, m), p, m);
    }

    int undoes(int p, int m) {
        return (int) said("undoes", table.undoes(p, m), p, m);
    }

    int trace(int k) {
        return (int) said("trace", table.trace(k), k);
    }

    int like(int p, int q) {
        return (int) said("like", table.like(p, q), p, q);
    }

    int search(int p, int n) {
        return (int) said("search", table.search(p, n), p, n);
    }

    int goOn(int n) {
        return (int) said("goOn", table.goOn(n), n);
    }

    int searched(int what) {
        return (int) said("searched", table.searched(what), what);
    }

    int fewer() {
        return (int) said("fewer", table.fewer());
    }

    int same(int p, int q, int n) {
        return (int) said("same", table.same(p, q, n), p, q, n);
    }

    int parted() {
        return (int) said("parted", table.parted());
    }

    int way(int k) {
        return (int) said("way", table.way(k), k);
    }

    int check(int p) {
        return (int) said("check", table.check(p), p);
    }

    int book(int p, long name) {
        return (int) said("book", table.book(p, name), p, name);
    }

    long name(int p) {
        return said("name", table.name(p), p);
    }

    int count(int what) {
        return (int) said("count", table.count(what), what);
    }

    int findings(int finding) {
        return (int) said("findings", table.findings(finding), finding);
    }

    int status() {
        return (int) said("status", table.status());
    }

    long digest() {
        return said("digest", table.digest());
    }
}
