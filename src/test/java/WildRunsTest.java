import java.lang.reflect.Method;
import java.lang.reflect.Modifier;
import java.util.ArrayList;
import java.util.Comparator;
import java.util.List;
import java.util.Random;

/** Runs of 512 calls with any numbers at all: none throws, and two houses of the same calls answer alike. */
public final class WildRunsTest {
    private static final int RUNS = 2000;
    private static final int[] EDGES = {Integer.MIN_VALUE, Integer.MAX_VALUE, -2, -1, 0, 1, 9, 99, 100, 199, 200, 399,
        400, 511, 512, 999, 1000, 3999, 4000, 9999, 10000, 999999, 0x20202020, 0x7475726e, 0x20312020};

    private final Random random;

    private WildRunsTest(long seed) {
        random = new Random(seed);
    }

    public static void main(String[] args) throws Exception {
        Due due = new Due();
        List<Method> face = new ArrayList<>();
        for (Method method : FilesOpened.class.getDeclaredMethods()) {
            if (Modifier.isPublic(method.getModifiers())) {
                face.add(method);
            }
        }
        face.sort(Comparator.comparing(Method::getName));
        for (long seed = 0; seed < RUNS; seed++) {
            new WildRunsTest(seed).go(face, due, "run " + seed);
        }
        due.end();
    }

    private void go(List<Method> face, Due due, String run) throws Exception {
        FilesOpened x = new FilesOpened();
        FilesOpened twin = new FilesOpened();
        for (int i = 0; i < 512; i++) {
            Method method = face.get(random.nextInt(face.size()));
            Object[] arguments = arguments(method);
            Object answer = method.invoke(x, arguments);
            due.yes(run + ": " + method.getName() + " answers alike", answer.equals(method.invoke(twin, arguments)));
        }
    }

    private Object[] arguments(Method method) {
        Class<?>[] types = method.getParameterTypes();
        Object[] arguments = new Object[types.length];
        for (int i = 0; i < types.length; i++) {
            if (types[i] == int.class) {
                arguments[i] = number();
            } else if (types[i] == long.class) {
                arguments[i] = random.nextBoolean() ? random.nextLong() : (long) number() * (1 + random.nextInt(257));
            } else {
                arguments[i] = random.nextBoolean();
            }
        }
        return arguments;
    }

    private int number() {
        int dice = random.nextInt(16);
        if (dice == 0) {
            return random.nextInt();
        }
        return dice == 1 ? EDGES[random.nextInt(EDGES.length)] : random.nextInt(1 + dice);
    }
}
