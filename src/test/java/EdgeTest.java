import java.lang.reflect.Method;
import java.lang.reflect.Modifier;
import java.util.ArrayList;
import java.util.Comparator;
import java.util.List;

/** Every method with numbers far out of bounds and at their edges, in an empty, a half full and a full book. */
public final class EdgeTest {
    private static final Check C = new Check();
    private static final int[] EDGES = {Integer.MIN_VALUE, Integer.MIN_VALUE + 1, -100001, -30000, -5, -4, -3, -2, -1, 0,
        1, 2, 3, 4, 5, 6, 7, 8, 9, 10, 11, 12, 13, 15, 16, 19, 20, 31, 32, 39, 40, 99, 100, 149, 150, 999, 1000, 4095, 4096,
        5000, 9999, 10000, 29999, 30000, 30001, 65536, 1 << 30, Integer.MAX_VALUE - 1, Integer.MAX_VALUE};

    private final DioceseBook book = new DioceseBook();
    private final Oracle oracle = new Oracle();
    private final List<Method> methods = new ArrayList<>();
    private long seed = 5;

    public static void main(String[] args) throws Exception {
        new EdgeTest().run();
        C.end();
    }

    private int next(int n) {
        seed = seed * 6364136223846793005L + 1442695040888963407L;
        return (int) ((seed >>> 33) % n);
    }

    private void run() throws Exception {
        for (Method m : DioceseBook.class.getDeclaredMethods()) {
            if (Modifier.isPublic(m.getModifiers())) {
                methods.add(m);
            }
        }
        methods.sort(Comparator.comparing(Method::getName));
        storm(3000);
        for (int i = 0; i < 5; i++) {
            ask("person", 10);
            ask("living", i, -i, 10);
            ask("piece", i / 3, 0, 0, i, i + 1);
            ask("go", 50);
        }
        storm(6000);
        for (int i = 0; i < 45; i++) {
            ask("person", i);
            ask("living", i, i - 50, i);
            ask("present", i % 5, i % 5, i);
            ask("field", i % 5, i % 2, i, 1 + i, 1);
            for (String t : new String[] {"let fee 1;", "bar age<2;", "strike 0;"}) {
                for (int k = 0; k < t.length(); k++) {
                    askFeed(1, t.charAt(k));
                }
            }
            ask("canon", i);
            ask("paper", 3, i % 20, i % 5, i % 5, i % 7, 0);
            ask("paper", 6, i % 20, i % 5, i % 5, i % 7, 0);
            ask("paper", 11, i % 20, i % 5, i % 5, i % 7, i);
            ask("paper", 4, i % 20, i % 5, i % 5, i % 7, i);
        }
        storm(20000);
    }

    private void storm(int calls) throws Exception {
        for (int i = 0; i < calls; i++) {
            Method m = methods.get(next(methods.size()));
            if (m.getName().equals("feed")) {
                askFeed(next(11) - 1, seed);
                continue;
            }
            int[] numbers = new int[m.getParameterCount()];
            for (int k = 0; k < numbers.length; k++) {
                numbers[k] = next(3) == 0 ? EDGES[next(EDGES.length)] : next(12) - 2;
            }
            boolean slow = m.getName().equals("lives") && book.count(7) > 11
                || m.getName().equals("plan") && Integer.bitCount(numbers[0]) > 5;
            if (slow) {
                m.invoke(book, (Object[]) boxed(numbers));
            } else {
                ask(m.getName(), numbers);
            }
        }
    }

    private static Integer[] boxed(int[] numbers) {
        Integer[] row = new Integer[numbers.length];
        for (int k = 0; k < row.length; k++) {
            row[k] = numbers[k];
        }
        return row;
    }

    private void ask(String name, int... numbers) throws Exception {
        Class<?>[] types = new Class<?>[numbers.length];
        StringBuilder call = new StringBuilder(name);
        for (int k = 0; k < numbers.length; k++) {
            types[k] = int.class;
            call.append(' ').append(numbers[k]);
        }
        Method want = Oracle.class.getDeclaredMethod(name, types);
        Object[] row = boxed(numbers);
        C.due(call.toString(), (Integer) DioceseBook.class.getMethod(name, types).invoke(book, row),
            (Integer) want.invoke(oracle, row));
    }

    private void askFeed(int n, long bytes) {
        C.due("feed " + n + " " + bytes, book.feed(n, bytes), oracle.feed(n, bytes));
    }
}
