import java.lang.reflect.InvocationTargetException;
import java.lang.reflect.Method;
import java.lang.reflect.Modifier;
import java.util.ArrayList;
import java.util.Arrays;
import java.util.List;
import java.util.Random;

/** Any numbers in any state: no call throws, and what is refused changes nothing that can be asked for. */
public final class AnyCallTest {
    private static final Due due = new Due();
    private static final int MOST_CALLS = 512, CALLS_TO_COMPARE = 40;
    private static final int[] EDGES = {0, 1, 2, 3, 4, 5, 6, 7, 9, 10, 11, 12, 23, 24, 30, 31, 39, 40, 59, 60, 99, 100,
        129, 130, 159, 160, 5000, 5001, -1, -2, -3, -11, -12, Integer.MAX_VALUE, Integer.MIN_VALUE, Integer.MAX_VALUE - 1,
        1 << 30, (1 << 30) - 1, 0x55555555, -1 << 30};

    /** A call with its numbers, so that it can be made again on another object. */
    private static final class Call {
        private final Method method;
        private final Object[] numbers;

        Call(Method method, Random random, boolean small) {
            this.method = method;
            numbers = new Object[method.getParameterCount()];
            for (int k = 0; k < numbers.length; k++) {
                int v = small || random.nextInt(3) > 0 ? random.nextInt(5) : EDGES[random.nextInt(EDGES.length)];
                if (method.getParameterTypes()[k] == long.class) {
                    numbers[k] = (long) v;
                } else {
                    numbers[k] = v;
                }
            }
        }

        void askOf(KnotTable x) {
            try {
                method.invoke(x, numbers);
            } catch (InvocationTargetException | IllegalAccessException thrown) {
                due.holds(this + " threw " + thrown.getCause(), false);
            }
        }

        @Override
        public String toString() {
            return method.getName() + Arrays.toString(numbers);
        }
    }

    private static List<Method> methods() {
        List<Method> all = new ArrayList<>();
        for (Method method : KnotTable.class.getDeclaredMethods()) {
            if (Modifier.isPublic(method.getModifiers())) {
                all.add(method);
            }
        }
        all.sort((a, b) -> a.getName().compareTo(b.getName()));
        return all;
    }

    private static KnotTable furnished(long seed) {
        Random random = new Random(seed);
        KnotTable x = new KnotTable();
        for (int k = 0; k < 3; k++) {
            House.knot(x, OracleTest.KNOTS[random.nextInt(OracleTest.KNOTS.length)]);
        }
        return x;
    }

    /** All that can be asked for, but for status() and findings(); it takes some 330 calls. */
    private static String snapshot(KnotTable x) {
        StringBuilder told = new StringBuilder().append(x.digest()).append(' ');
        for (int what = 0; what < 5; what++) {
            told.append(x.count(what)).append(' ');
        }
        for (int k = 0; k < 131; k++) {
            told.append(x.item(k)).append(' ');
        }
        for (int k = 0; k < 6; k++) {
            told.append(x.way(k)).append(' ').append(x.trace(k)).append(' ');
        }
        for (int power = -60; power <= 60; power++) {
            told.append(x.at(power)).append(' ');
        }
        told.append(x.where()).append(' ').append(x.parted()).append(' ').append(x.power(0)).append(' ');
        for (int what = 0; what < 4; what++) {
            told.append(x.searched(what)).append(' ');
        }
        told.append(x.goOn(7)).append(' ').append(x.fewer()).append(' ');
        for (int p = 0; p < 24; p++) {
            told.append(x.undo(p)).append(' ');
        }
        return told.append(x.digest()).toString();
    }

    /** The latest of some calls, if it was refused, leaves all as if it had not been made. */
    private static boolean refusedChangesNothing(long seed) {
        Random random = new Random(seed);
        List<Method> all = methods();
        List<Call> calls = new ArrayList<>();
        KnotTable x = furnished(seed);
        for (int k = 0; k < CALLS_TO_COMPARE; k++) {
            calls.add(new Call(all.get(random.nextInt(all.size())), random, seed % 3 == 0));
            calls.get(k).askOf(x);
        }
        Call last = new Call(all.get(random.nextInt(all.size())), random, seed % 3 == 0);
        last.askOf(x);
        if (x.status() == 0 || last.method.getName().equals("status")) {
            return false;
        }
        KnotTable y = furnished(seed);
        for (Call call : calls) {
            call.askOf(y);
        }
        due.holds(last + " behind " + calls + " was refused and changed something", snapshot(x).equals(snapshot(y)));
        return true;
    }

    private static void neverThrows(long seed) {
        Random random = new Random(seed);
        List<Method> all = methods();
        KnotTable x = furnished(seed);
        for (int k = 0; k < MOST_CALLS; k++) {
            new Call(all.get(random.nextInt(all.size())), random, seed % 3 == 0).askOf(x);
        }
        due.holds("it lives", x.count(0) >= 3);
    }

    public static void main(String[] args) {
        int refused = 0;
        for (long seed = 0; seed < 4000; seed++) {
            refused += refusedChangesNothing(seed) ? 1 : 0;
        }
        due.holds("calls were refused: " + refused, refused > 1500);
        for (long seed = 0; seed < 400; seed++) {
            neverThrows(seed);
        }
        due.end("AnyCallTest");
    }
}
