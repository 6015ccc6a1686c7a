import java.lang.reflect.Method;
import java.util.ArrayList;
import java.util.HashMap;
import java.util.List;
import java.util.Map;
import java.util.Random;

/** Random runs of calls, each answered by the class and by the model; an answer that is not the same fails. */
public final class AgainstModelTest {
    private static final int MOST_CALLS = 512;
    private static final Map<String, Method> CLASS = new HashMap<>();
    private static final Map<String, Method> MODEL = new HashMap<>();

    /** A call's name and the lowest and highest of what each argument is mostly drawn from. */
    private record Kind(String name, int weight, int... ranges) { }

    private static final Kind[] KINDS = {
        new Kind("of", 6, 0, 6, 0, 9), new Kind("at", 3, 0, 5), new Kind("asks", 6, 0, 5, 0, 5, 1, 8, 0, 1),
        new Kind("crack", 3, 0, 5, 0, 5, 0, 1), new Kind("part", 6, 0, 7, 0, 2), new Kind("clock", 4, 0, 7, 0, 3),
        new Kind("terms", 2, 0, 3, 0, 10), new Kind("screws", 1), new Kind("fault", 1), new Kind("stopped", 1),
        new Kind("force", 4, -1, 5), new Kind("hang", 12, 0, 5), new Kind("down", 4, 0, 5),
        new Kind("polish", 5, 0, 5, 1, 30), new Kind("pass", 8), new Kind("undo", 6), new Kind("makes", 3, 1, 8),
        new Kind("whole", 2, 1, 8, -1, 5), new Kind("near", 1, 1, 8), new Kind("hear", 2, 1, 8, 0, 7, 0, 1),
        new Kind("forget", 1), new Kind("lines", 2, 0, 6, -1, 5, 0, 5), new Kind("listen", 1, 0, 6, 0, 1),
        new Kind("face", 3, 0, 5, 0, 5, 0, 7, 0, 1), new Kind("union", 2, 0, 5), new Kind("ends", 2, 0, 60),
        new Kind("till", 2), new Kind("twins", 2, -1, 3), new Kind("lasts", 2, 0, 5, 0, 60),
        new Kind("wages", 3, -1, 5), new Kind("years", 2, 0, 1000000, 1, 60), new Kind("drawn", 4, 0, 7, 0, 2),
        new Kind("image", 1, 0, 1), new Kind("back", 1, 0, 1), new Kind("count", 6, 0, 16), new Kind("status", 4),
        new Kind("row", 1), new Kind("law", 1), new Kind("orders", 1), new Kind("end", 1, 0, 30),
    };

    private final Random random;
    private final NightMirrors glass = new NightMirrors();
    private final Model model = new Model();
    private final List<String> log = new ArrayList<>();
    private final Texts texts;

    private AgainstModelTest(long seed) {
        random = new Random(seed);
        texts = new Texts(random);
    }

    private boolean call(String name, int... args) throws Exception {
        Object[] boxed = new Object[args.length];
        for (int i = 0; i < args.length; i++) {
            boxed[i] = args[i];
        }
        long got = ((Number) CLASS.get(name).invoke(glass, boxed)).longValue();
        long want = ((Number) MODEL.get(name).invoke(model, boxed)).longValue();
        StringBuilder told = new StringBuilder(name).append('(');
        for (int i = 0; i < args.length; i++) {
            told.append(i == 0 ? "" : ", ").append(args[i]);
        }
        log.add(told.append(") = ").append(want).toString());
        if (got == want) {
            return true;
        }
        log.add("   answered " + got);
        return false;
    }

    private int draw(int low, int high) {
        int odd = random.nextInt(60);
        if (odd == 0) {
            return low - 1;
        }
        if (odd == 1) {
            return high + 1;
        }
        if (odd == 2) {
            return random.nextBoolean() ? random.nextInt() : random.nextInt(2000) - 1000;
        }
        return low + random.nextInt(high - low + 1);
    }

    private boolean drawnCall() throws Exception {
        int sum = 0;
        for (Kind kind : KINDS) {
            sum += kind.weight();
        }
        int pick = random.nextInt(sum);
        for (Kind kind : KINDS) {
            pick -= kind.weight();
            if (pick < 0) {
                int[] args = new int[kind.ranges().length / 2];
                for (int i = 0; i < args.length; i++) {
                    args[i] = draw(kind.ranges()[2 * i], kind.ranges()[2 * i + 1]);
                }
                return call(kind.name(), args);
            }
        }
        return true;
    }

    private boolean say(String text) throws Exception {
        log.add("# " + text);
        for (int i = 0; i < text.length(); i += 20) {
            if (!call("feed", Texts.five(text, i))) {
                return false;
            }
        }
        return call("end", text.length());
    }

    private boolean someMirror() throws Exception {
        int saw = 0;
        int length = 1 + random.nextInt(5);
        for (int i = 0; i < length; i++) {
            saw = saw * 10 + 1 + random.nextInt(random.nextInt(30) == 0 ? 9 : random.nextInt(3) == 0 ? 8 : 3);
        }
        return call("mirror", saw, draw(0, random.nextBoolean() ? 1 : 7), draw(1, 30));
    }

    private List<Integer> someLine() {
        List<List<Integer>> all = model.world.linesOf(random.nextInt(model.world.glasses.size() + 1));
        return all.isEmpty() ? List.of() : all.get(random.nextInt(all.size()));
    }

    /** A clock that some line makes by an hour, if it can be, so that there is a whole line to find. */
    private boolean aimedClock() throws Exception {
        List<Integer> line = someLine();
        int hour = 1 + random.nextInt(4);
        int[] made = new int[8];
        for (int h = 1; h <= hour; h++) {
            for (int place = 0; place < line.size() && place < h; place++) {
                made[model.world.makesAt(model.world.inForce(), line.get(place), place, h)]++;
            }
        }
        boolean good = true;
        for (int part = 0; good && part < 8; part++) {
            good = call("clock", part, Math.min(3, made[part]));
        }
        for (int i = -1; good && i <= line.size(); i++) {
            good = call("whole", hour, i);
        }
        return good && call("near", hour) && call("near", draw(1, 8)) && call("till");
    }

    /** What some line would have been heard to make, seldom with a thing that is not so. */
    private boolean aimedHearing() throws Exception {
        List<Integer> line = someLine();
        boolean good = call("forget");
        for (int i = random.nextInt(10); good && i > 0; i--) {
            int hour = 1 + random.nextInt(8);
            int part = random.nextInt(8);
            int made = model.world.setAt(line, hour) >> part & 1;
            good = call("hear", hour, part, random.nextInt(20) == 0 ? 1 - made : made);
        }
        int n = line.size();
        good = good && call("lines", n, -1, 0) && call("listen", n, 0) && call("listen", n, 1);
        int most = Math.max(1, model.lines(n, -1, 0));
        for (int i = 0; good && i < 3; i++) {
            good = call("lines", n, random.nextInt(most + 1), random.nextInt(n + 1));
        }
        return good;
    }

    private boolean someCall() throws Exception {
        int aim = random.nextInt(60);
        if (aim < 2) {
            return aim == 0 ? aimedClock() : aimedHearing();
        }
        int pick = random.nextInt(100);
        if (pick < 4) {
            return someMirror();
        }
        if (pick < 8) {
            boolean good = say(texts.law()) && call("law") && call("fault");
            return good && (random.nextInt(3) == 0 || call("force", glass.count(4) - 1));
        }
        if (pick < 14) {
            return say(texts.orders()) && call("orders") && call("fault") && call("stopped") && call("count", 5);
        }
        if (pick < 15) {
            return say(texts.row()) && call("row");
        }
        if (pick < 16) {
            return call("terms", 0, 990 + random.nextInt(12));
        }
        return drawnCall();
    }

    private boolean sweep() throws Exception {
        boolean good = call("status");
        for (int what = 0; good && what <= 16; what++) {
            good = call("count", what);
        }
        for (int mirror = 0; good && mirror < 6; mirror++) {
            good = call("of", mirror, 2) && call("of", mirror, 3) && call("of", mirror, 4) && call("at", mirror);
        }
        for (int part = 0; good && part < 8; part++) {
            good = call("part", part, 0) && call("part", part, 1);
        }
        return good;
    }

    private boolean run() throws Exception {
        int glasses = random.nextInt(7);
        for (int i = 0; i < glasses; i++) {
            if (!someMirror()) {
                return false;
            }
        }
        while (calls() < MOST_CALLS - 180) {
            if (!someCall() || random.nextInt(40) == 0 && !sweep()) {
                return false;
            }
        }
        return sweep();
    }

    private int calls() {
        int n = 0;
        for (String row : log) {
            n += row.startsWith("#") ? 0 : 1;
        }
        return n;
    }

    public static void main(String[] args) throws Exception {
        int runs = args.length > 0 ? Integer.parseInt(args[0]) : 150;
        long first = args.length > 1 ? Long.parseLong(args[1]) : 1;
        for (Method m : NightMirrors.class.getMethods()) {
            CLASS.put(m.getName(), m);
        }
        for (Method m : Model.class.getDeclaredMethods()) {
            if (CLASS.containsKey(m.getName())
                    && m.getParameterCount() == CLASS.get(m.getName()).getParameterCount()) {
                m.setAccessible(true);
                MODEL.put(m.getName(), m);
            }
        }
        int wrong = 0;
        for (int i = 0; i < runs && wrong < 3; i++) {
            AgainstModelTest test = new AgainstModelTest(first + i);
            if (!test.run()) {
                wrong++;
                System.out.println("seed " + (first + i) + ":");
                test.log.forEach(row -> System.out.println("  " + row));
            }
        }
        System.out.println(runs + " runs against the model, " + wrong + " wrong");
        if (wrong != 0) {
            System.exit(1);
        }
    }
}
