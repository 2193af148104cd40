import java.lang.reflect.InvocationTargetException;
import java.lang.reflect.Method;
import java.lang.reflect.Modifier;
import java.util.ArrayList;
import java.util.Arrays;
import java.util.List;
import java.util.Random;

/** Any numbers in any state: no call throws, and what is refused changes nothing that can be asked for. */
public final class AnyCallTest {
    private static final Due due = new Due();
    private static final int[] EDGES = {0, 1, 2, 3, 4, 5, 6, 7, 9, 10, 11, 12, 23, 24, 30, 31, 39, 40, 59, 60, 99, 100,
        129, 130, 159, 160, 5000, 5001, -1, -2, -3, -11, -12, Integer.MAX_VALUE, Integer.MIN_VALUE, Integer.MAX_VALUE - 1,
        1 << 30, (1 << 30) - 1, 0x55555555, -1 << 30};

    private static List<Method> methods() {
        List<Method> all = new ArrayList<>();
        for (Method method : KnotTable.class.getDeclaredMethods()) {
            if (Modifier.isPublic(method.getModifiers())) {
                all.add(method);
            }
        }
        all.sort((a, b) -> a.getName().compareTo(b.getName()));
        return all;
    }

    /** All that can be asked for without a change of status() or WORK, but for findings(). */
    private static String snapshot(KnotTable x) {
        StringBuilder told = new StringBuilder();
        for (int what = 0; what < 5; what++) {
            told.append(x.count(what)).append(' ');
        }
        for (int k = 0; k < 131; k++) {
            told.append(x.item(k)).append(' ');
        }
        for (int k = 0; k < 6; k++) {
            told.append(x.way(k)).append(' ').append(x.trace(k)).append(' ');
        }
        for (int power = -150; power < 150; power++) {
            told.append(x.at(power)).append(' ');
        }
        return told.append(x.where()).append(' ').append(x.parted()).toString();
    }

    private static long ask(KnotTable x, Method method, Random random, boolean small) {
        Object[] arguments = new Object[method.getParameterCount()];
        for (int k = 0; k < arguments.length; k++) {
            int v = small || random.nextInt(3) > 0 ? random.nextInt(5) : EDGES[random.nextInt(EDGES.length)];
            if (method.getParameterTypes()[k] == long.class) {
                arguments[k] = (long) v;
            } else {
                arguments[k] = v;
            }
        }
        try {
            return ((Number) method.invoke(x, arguments)).longValue();
        } catch (InvocationTargetException | IllegalAccessException thrown) {
            due.holds(method.getName() + Arrays.toString(arguments) + " threw " + thrown.getCause(), false);
            return 0;
        }
    }

    private static void run(long seed) {
        Random random = new Random(seed);
        List<Method> all = methods();
        KnotTable x = new KnotTable();
        for (int k = 0; k < 3; k++) {
            House.knot(x, OracleTest.KNOTS[random.nextInt(OracleTest.KNOTS.length)]);
        }
        for (int k = 0; k < 480; k++) {
            Method method = all.get(random.nextInt(all.size()));
            long digest = x.digest();
            String before = snapshot(x);
            ask(x, method, random, seed % 3 == 0);
            if (x.status() != 0) {
                due.holds(method.getName() + " was refused and changed something", before.equals(snapshot(x)));
                due.holds(method.getName() + " was refused and changed a picture", x.digest() == digest);
            }
        }
    }

    public static void main(String[] args) {
        for (long seed = 0; seed < 150; seed++) {
            run(seed);
        }
        due.end("AnyCallTest");
    }
}
