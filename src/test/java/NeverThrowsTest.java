import java.lang.reflect.InvocationTargetException;
import java.lang.reflect.Method;
import java.lang.reflect.Modifier;
import java.util.ArrayList;
import java.util.Comparator;
import java.util.List;
import java.util.Random;

/** Any numbers in any state, more often than the document allows: no call may throw. */
public final class NeverThrowsTest {
    private static final int OBJECTS = 120;
    private static final int CALLS = 1500;
    private static final int[] EDGES = {Integer.MIN_VALUE, Integer.MIN_VALUE + 1, -1000000001, -7, -2, -1, 0, 1, 2, 3, 4,
        5, 6, 7, 8, 9, 10, 15, 16, 17, 20, 29, 30, 31, 59, 60, 61, 98, 99, 100, 400, 401, 999, 1000, 12345, 88888,
        1000000, 1000001, Integer.MAX_VALUE - 1, Integer.MAX_VALUE};

    private static int edge(Random random) {
        int pick = random.nextInt(10);
        return pick == 0 ? random.nextInt() : pick < 7 ? random.nextInt(9) - 1 : EDGES[random.nextInt(EDGES.length)];
    }

    private static void text(NightMirrors x, Random random, Texts texts) {
        boolean ofLaws = random.nextBoolean();
        String text = ofLaws ? texts.law() : texts.orders();
        Texts.put(x, text);
        if (ofLaws) {
            x.law();
        } else {
            x.orders();
        }
    }

    private static boolean one(long seed, List<Method> calls) throws Exception {
        Random random = new Random(seed);
        Texts texts = new Texts(random);
        NightMirrors x = new NightMirrors();
        for (int i = 0; i < CALLS; i++) {
            if (random.nextInt(20) == 0) {
                x.mirror(1 + random.nextInt(8), random.nextInt(8), 1 + random.nextInt(30));
            }
            if (random.nextInt(20) == 0) {
                text(x, random, texts);
            }
            Method call = calls.get(random.nextInt(calls.size()));
            Object[] args = new Object[call.getParameterCount()];
            for (int k = 0; k < args.length; k++) {
                args[k] = edge(random);
            }
            try {
                call.invoke(x, args);
            } catch (InvocationTargetException e) {
                System.out.println("seed " + seed + ", call " + i + ", " + call.getName() + ": " + e.getCause());
                return false;
            }
        }
        return true;
    }

    public static void main(String[] args) throws Exception {
        List<Method> calls = new ArrayList<>();
        for (Method m : NightMirrors.class.getDeclaredMethods()) {
            if (Modifier.isPublic(m.getModifiers())) {
                calls.add(m);
            }
        }
        calls.sort(Comparator.comparing(Method::getName));
        int wrong = 0;
        for (long seed = 1; seed <= OBJECTS; seed++) {
            wrong += one(seed, calls) ? 0 : 1;
        }
        System.out.println(OBJECTS + " objects called " + CALLS + " times each, " + wrong + " threw");
        if (wrong != 0) {
            System.exit(1);
        }
    }
}
