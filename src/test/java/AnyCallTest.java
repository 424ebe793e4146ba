import java.lang.management.ManagementFactory;
import java.lang.reflect.InvocationTargetException;
import java.lang.reflect.Method;
import java.lang.reflect.Modifier;
import java.util.Arrays;
import java.util.Comparator;
import java.util.List;
import java.util.Random;

/** Any call, with any numbers, in any state: none throws, the same calls answer the same, and the room is kept small. */
public final class AnyCallTest {
    private static final Due DUE = new Due("AnyCallTest");
    private static final int RUNS = 300;
    private static final int CALLS = 512;
    private static final long ROOM_OF_A_CALL = 2000;
    private static final int[] EDGES = {-1, 0, 1, 2, 3, 4, 5, 6, 9, 10, 11, 20, 30, 31, 40, 59, 60, 61, 99, 100, 800,
        -2, -100, 2000000000, 2000000001, Integer.MAX_VALUE, Integer.MIN_VALUE};

    private final Random random;
    private final WearingBench x = new WearingBench();

    private AnyCallTest(int seed) {
        random = new Random(seed);
    }

    public static void main(String[] args) throws Exception {
        List<Method> face = Arrays.stream(WearingBench.class.getDeclaredMethods())
                .filter(m -> Modifier.isPublic(m.getModifiers()))
                .sorted(Comparator.comparing(Method::getName)).toList();
        for (int seed = 0; seed < RUNS; seed++) {
            long first = new AnyCallTest(seed).run(face);
            DUE.is("the same calls again, seed " + seed, new AnyCallTest(seed).run(face), first);
        }
        room();
        DUE.end();
    }

    private long run(List<Method> face) throws Exception {
        long answers = 0;
        for (int i = 0; i < CALLS; i++) {
            if (random.nextInt(40) == 0) {
                Tell.bench(x, Oracle.random(random).text(random));
            }
            Method method = face.get(random.nextInt(face.size()));
            Object[] numbers = new Object[method.getParameterCount()];
            for (int p = 0; p < numbers.length; p++) {
                boolean isLong = method.getParameterTypes()[p] == long.class;
                numbers[p] = isLong ? (Object) (long) number() : (Object) number();
            }
            try {
                answers = 31 * answers + ((Number) method.invoke(x, numbers)).longValue();
            } catch (InvocationTargetException e) {
                DUE.holds(method.getName() + Arrays.toString(numbers) + " threw " + e.getCause(), false);
            }
        }
        return answers;
    }

    private int number() {
        return random.nextInt(3) == 0 ? EDGES[random.nextInt(EDGES.length)] : random.nextInt(6);
    }

    /** The dearest calls make nothing that stays: only an object's making and its images take room. */
    private static void room() {
        com.sun.management.ThreadMXBean threads = (com.sun.management.ThreadMXBean) ManagementFactory.getThreadMXBean();
        WearingBench x = Tell.of(full());
        dearest(x);
        long id = Thread.currentThread().getId();
        long before = threads.getThreadAllocatedBytes(id);
        for (int i = 0; i < 20; i++) {
            dearest(x);
        }
        long taken = threads.getThreadAllocatedBytes(id) - before;
        DUE.holds("twenty rounds of the dearest calls took " + taken + " bytes", taken < 20 * ROOM_OF_A_CALL);
        long made = threads.getThreadAllocatedBytes(id);
        new WearingBench();
        made = threads.getThreadAllocatedBytes(id) - made;
        DUE.holds("a new object took " + made + " bytes", made < 40000);
    }

    private static void dearest(WearingBench x) {
        x.undo();
        x.move(0, 1, 1);
        x.best();
        x.chance(0, 10, 0);
        x.tuned(0);
        x.youth(0);
        x.every();
        x.calls();
        x.rests(0, 1);
        x.swaps();
        x.luck(1, 20, 0);
        x.row(0, 0, 0);
        x.ask(0, 0);
        x.mark(0, 9);
        x.image(0);
        x.back(0);
    }

    private static String full() {
        StringBuilder text = new StringBuilder("bench law 3 wear 50 every 6 odds 5;");
        for (int s = 0; s < 6; s++) {
            text.append("seat gives " + s + ";");
        }
        for (int c = 0; c < 5; c++) {
            text.append("caller age " + 10 * c + " comes 0 seat " + c + " told 10 to 90;");
        }
        return text.toString();
    }
}
