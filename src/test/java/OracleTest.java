import java.lang.reflect.InvocationTargetException;
import java.lang.reflect.Method;
import java.util.ArrayList;
import java.util.Arrays;
import java.util.HashMap;
import java.util.List;
import java.util.Map;
import java.util.Random;
import java.util.TreeMap;

/** Long runs of calls, some wild, some of real knots: each answer is the one that the Oracle gives. */
public final class OracleTest {
    private static final int MOST_CALLS = 512;
    static final int[][] KNOTS = {
        {-2}, {-3}, {-4},
        {0, 2, -1, -2},
        {3, 5, 11, 1, 7, 9, -1, -2},
        {2, 4, 10, 0, 6, 8, -1, -2},
        {1, 7, -1, 3, 5, -1, -2},
        {0, 6, -1, 2, 4, -1, -3},
        {1, 7, 9, 15, -1, 3, 5, 11, 13, -1, -2},
        {1, 7, 9, 15, 17, 3, 5, 11, 13, 19, -1, -2},
        {3, 5, 11, 1, 7, 9, -1, 14, 16, 22, 12, 18, 20, -1, -4},
    };

    private final Random random;
    private final KnotTable table = new KnotTable();
    private final Oracle oracle = new Oracle();
    private final List<String> told = new ArrayList<>();
    private int calls;
    private boolean failed;

    static final Map<String, Method> METHODS = new HashMap<>();
    static final Map<String, Integer> COUNTS = new TreeMap<>();

    private OracleTest(long seed) {
        random = new Random(seed);
    }

    private static long ask(KnotTable table, String name, long[] v) {
        Method method = METHODS.get(name);
        Class<?>[] kinds = method.getParameterTypes();
        Object[] arguments = new Object[kinds.length];
        for (int k = 0; k < kinds.length; k++) {
            if (kinds[k] == int.class) {
                arguments[k] = (int) v[k];
            } else {
                arguments[k] = v[k];
            }
        }
        try {
            return ((Number) method.invoke(table, arguments)).longValue();
        } catch (InvocationTargetException | IllegalAccessException thrown) {
            throw new IllegalStateException(name + Arrays.toString(v) + " threw", thrown);
        }
    }

    /** One call and what status() says behind it; none beyond those that the document speaks of. */
    private long call(String name, long... v) {
        if (calls + 3 > MOST_CALLS) {
            return -2;
        }
        calls += 2;
        long want = oracle.call(name, v);
        long got = ask(table, name, v);
        told.add(name + Arrays.toString(v) + " = " + got);
        count(name, v, got);
        boolean statusIsDue = table.status() == oracle.call("status");
        if ((got != want || !statusIsDue) && !failed) {
            failed = true;
            for (String one : told) {
                System.out.println("  " + one);
            }
            System.out.println("due is " + want + ", and status() " + oracle.call("status"));
        }
        return got;
    }

    private void count(String name, long[] v, long got) {
        long status = oracle.call("status");
        boolean onMove = name.equals("does") || name.equals("undoes");
        if (status != 0) {
            COUNTS.merge("refused " + status, 1, Integer::sum);
        } else if (onMove) {
            COUNTS.merge(name + " of kind " + oracle.call("tells", v[1], 0), 1, Integer::sum);
            ask(table, "tells", new long[] {v[1], 0});
            calls++;
        } else if (name.equals("same")) {
            COUNTS.merge("same = " + got + " by " + oracle.call("parted"), 1, Integer::sum);
        } else if (name.equals("like") || name.equals("open")) {
            COUNTS.merge(name + " = " + got, 1, Integer::sum);
        }
        if (status == 0) {
            COUNTS.merge(name, 1, Integer::sum);
        }
    }

    private int upTo(int n) {
        return random.nextInt(n);
    }

    /** Mostly 0 .. n - 1, at times a little or far beyond. */
    private int near(int n) {
        int kind = upTo(40);
        if (kind == 0) {
            return n + upTo(3);
        }
        if (kind == 1) {
            return -1 - upTo(2);
        }
        if (kind == 2) {
            int[] far = {Integer.MAX_VALUE, Integer.MIN_VALUE, 1 << 30, -100, 1000, Integer.MAX_VALUE - 3};
            return far[upTo(far.length)];
        }
        return n > 0 ? upTo(n) : 0;
    }

    private int anyPicture() {
        return near((int) oracle.call("count", 0));
    }

    private int crossingsOf(int p) {
        return Math.max(0, (int) call("told", p, 0));
    }

    private void typeRow(int[] row) {
        call("clear");
        for (int v : row) {
            call("type", v);
        }
        call("ofGauss");
    }

    private void askAll(int p) {
        for (int what = 0; what < 6; what++) {
            call("told", p, what);
        }
        call("open", p);
        call("where");
        call("gauss", p);
        call("digest");
    }

    private void askResult() {
        long low = call("power", 0);
        long high = call("power", 1);
        for (long k = low; k <= high && k < low + 12; k++) {
            call("at", k);
        }
        call("at", near(10));
    }

    private void askRows() {
        call("status");
        call("parted");
        for (int k = -1; k < 4; k++) {
            call("way", k);
            call("trace", k);
        }
        call("findings", near(10));
        call("count", near(5));
        call("item", near(9));
    }

    private void oneMove() {
        int p = anyPicture();
        int n = crossingsOf(p);
        int kind = near(6);
        int a = near(4 * n);
        int b = near(kind == 0 ? 4 : kind == 4 ? 2 : kind == 3 ? Math.min(1 << Math.min(n, 12), 4096) : 4 * n);
        if (kind == 0 && upTo(6) == 0) {
            a = -1;
        }
        if (kind >= 4) {
            a = near(n);
        }
        if (kind == 1 && upTo(2) == 0) {
            b = regionMate(p, a, n);
        }
        int m = (int) call("move", kind, a, b, near(2));
        if (m < 0) {
            m = near(60);
        }
        call("may", p, m);
        call(upTo(3) == 0 ? "undoes" : "does", p, m);
    }

    /** An END that lies in the REGION of another one, if the PICTURE is WHOLE. */
    private int regionMate(int p, int a, int n) {
        int e = a;
        for (int turn = 0; turn < 1 + upTo(3); turn++) {
            long arc = oracleEnd(p, e);
            for (int f = 0; f < 4 * n; f++) {
                if (f != e && oracleEnd(p, f) == arc) {
                    e = (f & ~3) | ((f + 3) & 3);
                    break;
                }
            }
        }
        return e;
    }

    private long oracleEnd(int p, int e) {
        return call("end", p, e >> 2, e & 3);
    }

    private void oneWildCall() {
        int p = anyPicture();
        int n = crossingsOf(p);
        switch (upTo(9)) {
            case 0: call("crossing", p, near(5) - 1, near(5), near(5), near(5)); break;
            case 1: call("row", p, near(n), near(6) - 1); break;
            case 2: call("put", p, near(n), near(4), near(5) - 1); break;
            case 3: call("copy", p, near(n), near(4), anyPicture(), near(n), near(4), near(4)); break;
            case 4: call("loose", p, near(10)); break;
            case 5: call("end", p, near(n), near(4)); break;
            case 6: call("undo", p); break;
            case 7: call("type", near(8) - 3); break;
            default: call("open", p); call("where"); break;
        }
    }

    private void oneNumber() {
        int p = anyPicture();
        int n = crossingsOf(p);
        int[] primes = {3, 5, 7, 11, 2, 4};
        switch (upTo(11)) {
            case 0: call("sign", p, near(n)); break;
            case 1: call("pieceOf", p, near(4 * n)); break;
            case 2: call("linking", p, near(3), near(3)); break;
            case 3: call("colours", p, primes[upTo(6)]); break;
            case 4: if (n < 9) { call("bracket", p); askResult(); } break;
            case 5: if (n < 9) { call("polynomial", p); askResult(); } break;
            case 6: if (n < 9) { call("determinant", p); } break;
            case 7: call("gauss", p); call("ofGauss"); break;
            case 8: if (n < 9) { call("book", p, near(6)); } break;
            case 9: if (n < 9) { call("name", p); } break;
            default: call("power", near(2)); break;
        }
    }

    private void oneSearch() {
        int p = anyPicture();
        int q = anyPicture();
        int n = Math.max(crossingsOf(p), crossingsOf(q));
        switch (upTo(9)) {
            case 0: call("like", p, q); break;
            case 1: call("search", p, near(30)); break;
            case 2: call("goOn", near(30)); break;
            case 3: call("searched", near(4)); break;
            case 4: call("fewer"); break;
            case 5: case 6: if (n < 9) { call("same", p, q, near(120)); } break;
            case 7: call("check", p); break;
            default: call("search", p, 60); call("fewer"); break;
        }
    }

    private void onePicture() {
        int p = anyPicture();
        int n = crossingsOf(p);
        switch (upTo(7)) {
            case 0: call("picture"); break;
            case 1: call("mirror", p); break;
            case 2: call("turn", p); break;
            case 3: call("join", p, near(4 * n), anyPicture(), near(12)); break;
            case 4: call("twin", p); break;
            case 5: call("undo", p); break;
            default: typeRow(KNOTS[upTo(KNOTS.length)]); break;
        }
    }

    private void oneMoveTold() {
        int m = near((int) oracle.call("count", 1));
        call("tells", m, near(6));
        call("trace", near(3));
        call("as", m, near(6));
    }

    private boolean run(boolean wild) {
        for (int k = 0; k < 2 + upTo(3); k++) {
            typeRow(KNOTS[upTo(KNOTS.length)]);
        }
        while (calls + 3 <= MOST_CALLS && !failed) {
            int kind = upTo(20);
            if (kind < 8) {
                oneMove();
            } else if (kind < 11) {
                oneNumber();
            } else if (kind < 13) {
                oneSearch();
            } else if (kind < 14) {
                onePicture();
            } else if (kind < 15) {
                oneMoveTold();
            } else if (kind < 16) {
                askRows();
            } else if (kind < 17) {
                askAll(anyPicture());
            } else if (wild) {
                oneWildCall();
            }
        }
        return !failed;
    }

    /** A knot with kinks and pokes up to 12 CROSSINGS: a SEARCH that comes to 100 STATES. */
    private boolean runGreatSearch() {
        typeRow(KNOTS[4 + upTo(6)]);
        for (int k = 0; k < 40; k++) {
            int n = crossingsOf(0);
            if (n >= 12 || n < 1) {
                break;
            }
            int a = upTo(4 * n);
            boolean poke = n < 11 && upTo(3) == 0;
            call("does", 0, call("move", poke ? 1 : 0, a, poke ? regionMate(0, a, n) : upTo(4), upTo(2)));
        }
        call("search", 0, upTo(400));
        for (int k = 0; k < 6; k++) {
            call("goOn", upTo(300));
            for (int what = 0; what < 4; what++) {
                call("searched", what);
            }
        }
        int f = (int) call("fewer");
        askRows();
        call("check", 0);
        call("digest");
        call("goOn", 5000);
        call("searched", 0);
        call("fewer");
        call("digest");
        if (crossingsOf(f) <= 10) {
            call("same", 0, f, 5000);
            call("searched", 3);
            askRows();
        }
        return !failed;
    }

    /** Pictures of up to 40 CROSSINGS: joined, moved, seen from behind. */
    private boolean runGreatPictures() {
        for (int k = 0; k < 4; k++) {
            typeRow(KNOTS[4 + upTo(7)]);
        }
        while (calls + 3 <= MOST_CALLS && !failed) {
            int p = upTo((int) oracle.call("count", 0));
            int q = upTo((int) oracle.call("count", 0));
            int n = crossingsOf(p);
            int a = near(4 * n);
            switch (upTo(9)) {
                case 0: case 1: call("join", p, a, q, near(4 * crossingsOf(q))); break;
                case 2: call("does", p, call("move", 1, a, regionMate(p, upTo(4 * n + 1), n), upTo(2))); break;
                case 3: call("does", p, call("move", 0, a, upTo(4), 0)); break;
                case 4: call("undoes", p, call("move", upTo(3), a, 0, 0)); break;
                case 5: call("does", p, call("move", 3, a, 1 << (upTo(4 * n + 1) / 4), 0)); break;
                case 6: call("like", p, q); call("turn", p); call("mirror", q); call("undo", p); break;
                case 7: call("gauss", p); call("ofGauss"); call("like", p, oracle.call("count", 0) - 1); break;
                default: askAll(p); call("colours", p, 3); call("sign", p, near(n)); call("does", p, call("move", 4, near(n), upTo(2), 0)); break;
            }
        }
        return !failed;
    }

    public static void main(String[] args) {
        for (Method method : KnotTable.class.getDeclaredMethods()) {
            METHODS.put(method.getName(), method);
        }
        int runs = args.length > 0 ? Integer.parseInt(args[0]) : 600;
        long from = args.length > 1 ? Long.parseLong(args[1]) : 1;
        Due due = new Due();
        for (long seed = from; seed < from + runs; seed++) {
            boolean as = new OracleTest(seed).run(seed % 2 == 0);
            due.holds("run " + seed + " is as the Oracle says", as);
            if (!as) {
                break;
            }
        }
        for (long seed = from; seed < from + runs / 10; seed++) {
            due.holds("great search " + seed, new OracleTest(seed).runGreatSearch());
            due.holds("great pictures " + seed, new OracleTest(seed).runGreatPictures());
        }
        for (Map.Entry<String, Method> one : METHODS.entrySet()) {
            if (java.lang.reflect.Modifier.isPublic(one.getValue().getModifiers())) {
                due.holds(one.getKey() + " was granted at times", COUNTS.getOrDefault(one.getKey(), 0) > 0
                        || runs < 100);
            }
        }
        if (args.length > 0) {
            System.out.println(COUNTS);
        }
        due.end("OracleTest");
    }
}
