import java.util.ArrayList;
import java.util.Arrays;
import java.util.HashMap;
import java.util.List;
import java.util.Map;

/**
 * The document once more, written for plainness alone with the whole Java library: texts are kept as
 * tokens and read anew each time they are asked, lines are all written out. The class is compared with it.
 */
final class Model {
    static final class Broken extends RuntimeException {
        Broken() {
            super("broken", null, false, false);
        }
    }

    static final class Refused extends RuntimeException {
        final int by;

        Refused(int by) {
            super("refused", null, false, false);
            this.by = by;
        }
    }

    static final class Fault extends RuntimeException {
        final int at;

        Fault(int at) {
            super("fault", null, false, false);
            this.at = at;
        }
    }

    record Token(String text, int at) { }

    interface Num {
        long of(Map<String, Long> words);
    }

    interface Bool {
        boolean of(Map<String, Long> words);
    }

    static final class Clause {
        String verb;
        Num first;
        Num second;
        int times = 1;
        Bool test;
    }

    static final class Glass {
        List<Integer> saw = new ArrayList<>();
        int bend;
        int silver;

        Glass copy() {
            Glass g = new Glass();
            g.saw = new ArrayList<>(saw);
            g.bend = bend;
            g.silver = silver;
            return g;
        }
    }

    static final class World {
        List<Glass> glasses = new ArrayList<>();
        List<Integer> line = new ArrayList<>();
        boolean[][] crack = new boolean[6][6];
        int[] stock = new int[8];
        int[] clock = new int[8];
        List<int[]> heard = new ArrayList<>();
        int[] terms = {0, 3, 0, 6};
        List<List<Clause>> laws = new ArrayList<>();
        int force = -1;

        World copy() {
            World w = new World();
            for (Glass g : glasses) {
                w.glasses.add(g.copy());
            }
            w.line = new ArrayList<>(line);
            for (int i = 0; i < 6; i++) {
                w.crack[i] = crack[i].clone();
            }
            w.stock = stock.clone();
            w.clock = clock.clone();
            w.heard = new ArrayList<>(heard);
            w.terms = terms.clone();
            w.laws = new ArrayList<>(laws);
            w.force = force;
            return w;
        }

        List<Clause> inForce() {
            return force < 0 ? new ArrayList<>() : laws.get(force);
        }

        boolean has(int mirror) {
            return mirror >= 0 && mirror < glasses.size();
        }

        Map<String, Long> words(int mirror, int place, int hour, int part) {
            Map<String, Long> m = new HashMap<>();
            m.put("mirror", (long) mirror);
            m.put("place", (long) place);
            m.put("hour", (long) hour);
            m.put("part", (long) part);
            m.put("bend", mirror < 0 ? -1L : glasses.get(mirror).bend);
            m.put("silver", mirror < 0 ? -1L : glasses.get(mirror).silver);
            m.put("night", (long) terms[0]);
            m.put("mood", (long) terms[2]);
            return m;
        }

        /** What the last clause tells that holds, or null. */
        static Long told(List<Clause> law, String verb, Map<String, Long> words) {
            Long last = null;
            for (Clause c : law) {
                if (!c.verb.equals(verb)) {
                    continue;
                }
                try {
                    if (c.test == null || c.test.of(words)) {
                        last = c.first == null ? Long.valueOf(1) : Long.valueOf(c.first.of(words));
                    }
                } catch (Broken b) {
                    continue;
                }
            }
            return last;
        }

        static int near(long value, int low, int high) {
            return (int) (value < low ? low : value > high ? high : value);
        }

        int makesOf(List<Clause> law, int mirror, int place, int hour, int part) {
            Long told = told(law, "makes", words(mirror, place, hour, part));
            return told == null ? (part + glasses.get(mirror).bend) % 8 : near(told, 0, 7);
        }

        /** -1: it does not work yet. */
        int makesAt(List<Clause> law, int mirror, int place, int hour) {
            if (hour < place + 1) {
                return -1;
            }
            List<Integer> saw = glasses.get(mirror).saw;
            int k = saw.size() - 1;
            for (int h = place + 1; h < hour; h++) {
                k--;
                if (k < 0) {
                    k = saw.size() - 1;
                }
            }
            return makesOf(law, mirror, place, hour, saw.get(k));
        }

        int wears(int mirror) {
            Long told = told(inForce(), "wears", words(mirror, line.indexOf(mirror), -1, -1));
            return told == null ? 1 : near(told, 0, 9);
        }

        int paid(List<Clause> law, int part) {
            Long told = told(law, "pays", words(-1, -1, -1, part));
            return told == null ? 1 : near(told, 0, 99);
        }

        boolean barred(int mirror, int place) {
            return told(inForce(), "bars", words(mirror, place, -1, -1)) != null;
        }

        int hang(int mirror) {
            if (!has(mirror)) {
                throw new Refused(-2);
            }
            if (line.contains(mirror) || glasses.get(mirror).silver == 0 || barred(mirror, line.size())) {
                throw new Refused(-3);
            }
            line.add(mirror);
            return line.size() - 1;
        }

        int down(int mirror) {
            if (!has(mirror)) {
                throw new Refused(-2);
            }
            int place = line.indexOf(mirror);
            if (place < 0) {
                throw new Refused(-3);
            }
            line.remove(place);
            return place;
        }

        int polish(int mirror, int by) {
            if (by < 1 || by > 30) {
                throw new Refused(-1);
            }
            if (!has(mirror)) {
                throw new Refused(-2);
            }
            if (stock[0] == 0) {
                throw new Refused(-3);
            }
            stock[0]--;
            Glass g = glasses.get(mirror);
            g.silver = Math.min(30, g.silver + by);
            return g.silver;
        }

        /** Without asking whether it is the last night. */
        int night() {
            int made = 0;
            int[] more = new int[8];
            for (int hour = 1; hour <= terms[3]; hour++) {
                for (int place = 0; place < line.size(); place++) {
                    int part = makesAt(inForce(), line.get(place), place, hour);
                    if (part >= 0) {
                        more[part]++;
                        made++;
                    }
                }
            }
            for (int part = 0; part < 8; part++) {
                stock[part] = Math.min(99, stock[part] + more[part]);
            }
            int[] wear = new int[6];
            for (int mirror : line) {
                wear[mirror] = wears(mirror);
            }
            for (int mirror : line) {
                Glass g = glasses.get(mirror);
                g.silver = Math.max(0, g.silver - wear[mirror]);
            }
            line.removeIf(mirror -> glasses.get(mirror).silver == 0);
            terms[0]++;
            return made;
        }

        int pass() {
            if (terms[0] == 999) {
                throw new Refused(-3);
            }
            return night();
        }

        /** All lines that may hang, of n mirrors each, as rows of numbers go. */
        List<List<Integer>> linesOf(int n) {
            List<List<Integer>> all = new ArrayList<>();
            all.add(new ArrayList<>());
            for (int place = 0; place < n; place++) {
                List<List<Integer>> longer = new ArrayList<>();
                for (List<Integer> row : all) {
                    for (int m = 0; m < glasses.size(); m++) {
                        if (!row.contains(m) && glasses.get(m).silver > 0 && !barred(m, place)) {
                            List<Integer> next = new ArrayList<>(row);
                            next.add(m);
                            longer.add(next);
                        }
                    }
                }
                all = longer;
            }
            return all;
        }

        int setAt(List<Integer> row, int hour) {
            int bits = 0;
            for (int place = 0; place < row.size(); place++) {
                int part = makesAt(inForce(), row.get(place), place, hour);
                if (part >= 0) {
                    bits |= 1 << part;
                }
            }
            return bits;
        }

        int offBy(List<Integer> row, int hour) {
            int[] made = new int[8];
            for (int place = 0; place < row.size(); place++) {
                for (int h = 1; h <= hour; h++) {
                    int part = makesAt(inForce(), row.get(place), place, h);
                    if (part >= 0) {
                        made[part]++;
                    }
                }
            }
            int off = 0;
            for (int part = 0; part < 8; part++) {
                off += Math.abs(made[part] - clock[part]);
            }
            return off;
        }
    }

    /** Reads a text; what it gives answers with the words of the moment. */
    static final class Grammar {
        static final List<String> LAW_WORDS =
                Arrays.asList("mirror", "place", "hour", "part", "bend", "silver", "night", "mood");
        static final List<String> ORDER_WORDS = Arrays.asList("night", "done", "latest", "hung");
        final List<Token> tokens = new ArrayList<>();
        final boolean laws;
        int at = 0;
        int parts = 0;
        int brackets = 0;

        Grammar(int[] tape, int length, boolean laws) {
            this.laws = laws;
            int i = 0;
            while (i < length) {
                char c = (char) tape[i];
                if (c == ' ') {
                    i++;
                    continue;
                }
                int j = i + 1;
                if (letter(c)) {
                    while (j < length && letter((char) tape[j])) {
                        j++;
                    }
                } else if (digit(c)) {
                    while (j < length && digit((char) tape[j])) {
                        j++;
                    }
                }
                StringBuilder b = new StringBuilder();
                for (int k = i; k < j; k++) {
                    b.append((char) tape[k]);
                }
                tokens.add(new Token(b.toString(), i));
                i = j;
            }
            tokens.add(new Token("", length));
        }

        static boolean letter(char c) {
            return "abcdefghijklmnopqrstuvwxyz".indexOf(c) >= 0;
        }

        static boolean digit(char c) {
            return "0123456789".indexOf(c) >= 0;
        }

        String now() {
            return tokens.get(at).text();
        }

        Fault fault() {
            return new Fault(tokens.get(at).at());
        }

        boolean take(String text) {
            if (now().equals(text)) {
                at++;
                return true;
            }
            return false;
        }

        void want(String text) {
            if (!take(text)) {
                throw fault();
            }
        }

        int number(int low, int high) {
            String t = now();
            if (t.isEmpty() || !digit(t.charAt(0))) {
                throw fault();
            }
            java.math.BigInteger v = new java.math.BigInteger(t);
            if (v.compareTo(java.math.BigInteger.valueOf(low)) < 0
                    || v.compareTo(java.math.BigInteger.valueOf(high)) > 0) {
                throw fault();
            }
            at++;
            return v.intValue();
        }

        List<Clause> text() {
            List<Clause> all = new ArrayList<>();
            do {
                if (all.size() == 12) {
                    throw fault();
                }
                all.add(clause());
            } while (take(";"));
            if (!now().isEmpty()) {
                throw fault();
            }
            return all;
        }

        Clause clause() {
            Clause c = new Clause();
            List<String> verbs = laws ? Arrays.asList("makes", "wears", "pays", "bars")
                    : Arrays.asList("hang", "down", "polish", "pass");
            if (!verbs.contains(now())) {
                throw fault();
            }
            c.verb = now();
            at++;
            if (!c.verb.equals("bars") && !c.verb.equals("pass")) {
                c.first = sum();
            }
            if (c.verb.equals("polish")) {
                want("by");
                c.second = sum();
            }
            if (!laws && take("times")) {
                c.times = number(1, 20);
            }
            if (take("if")) {
                c.test = test();
            }
            return c;
        }

        Bool test() {
            Bool left = both();
            while (take("or")) {
                Bool a = left;
                Bool b = both();
                left = w -> a.of(w) || b.of(w);
            }
            return left;
        }

        Bool both() {
            Bool left = plain();
            while (take("and")) {
                Bool a = left;
                Bool b = plain();
                left = w -> a.of(w) && b.of(w);
            }
            return left;
        }

        Bool plain() {
            if (take("not")) {
                Bool a = plain();
                return w -> !a.of(w);
            }
            if (now().equals("(")) {
                open();
                Bool a = test();
                want(")");
                brackets--;
                return a;
            }
            Num a = sum();
            String op = now();
            if (!op.equals("<") && !op.equals(">") && !op.equals("=")) {
                throw fault();
            }
            at++;
            Num b = sum();
            return w -> {
                long x = a.of(w);
                long y = b.of(w);
                return op.equals("<") ? x < y : op.equals(">") ? x > y : x == y;
            };
        }

        void open() {
            if (brackets == 8) {
                throw fault();
            }
            brackets++;
            at++;
        }

        Num sum() {
            Num left = term();
            while (now().equals("+") || now().equals("-")) {
                boolean plus = now().equals("+");
                at++;
                Num a = left;
                Num b = term();
                left = w -> {
                    long x = a.of(w);
                    long y = b.of(w);
                    return held(plus ? x + y : x - y);
                };
            }
            return left;
        }

        Num term() {
            Num left = part();
            while (now().equals("*") || now().equals("/") || now().equals("%")) {
                String op = now();
                at++;
                Num a = left;
                Num b = part();
                left = w -> {
                    long x = a.of(w);
                    long y = b.of(w);
                    if (op.equals("*")) {
                        return held(x * y);
                    }
                    if (y == 0) {
                        throw new Broken();
                    }
                    return held(op.equals("/") ? x / y : x % y);
                };
            }
            return left;
        }

        static long held(long v) {
            if (Math.abs(v) > 1_000_000_000L) {
                throw new Broken();
            }
            return v;
        }

        Num part() {
            if (now().equals("[")) {
                open();
                Num a = sum();
                want("]");
                brackets--;
                return a;
            }
            String t = now();
            boolean isNumber = !t.isEmpty() && digit(t.charAt(0));
            boolean isWord = laws ? LAW_WORDS.contains(t)
                    : ORDER_WORDS.contains(t) || t.equals("silver") || t.equals("stock");
            if (!isNumber && !isWord || parts == 50) {
                throw fault();
            }
            parts++;
            if (isNumber) {
                long v = number(0, 1000);
                return w -> v;
            }
            at++;
            if (!laws && (t.equals("silver") || t.equals("stock"))) {
                String name = t + number(0, t.equals("silver") ? 5 : 7);
                return w -> w.get(name);
            }
            return w -> w.get(t);
        }
    }

    World world = new World();
    World[] images = new World[2];
    List<World> undone = new ArrayList<>();
    List<Integer> undoneKinds = new ArrayList<>();
    World years;
    int[] tape = new int[400];
    int length = 0;
    int screws = 0;
    int fault = -1;
    int stopped = -1;
    int status = 0;
    int[] refused = new int[7];

    interface Call {
        int run();
    }

    int guarded(Call call) {
        try {
            int answer = call.run();
            status = 0;
            return answer;
        } catch (Refused r) {
            status = r.by;
            refused[-r.by]++;
            return r.by;
        }
    }

    static void check(boolean good, int by) {
        if (!good) {
            throw new Refused(by);
        }
    }

    static boolean in(int v, int low, int high) {
        return v >= low && v <= high;
    }

    int mirror(int saw, int bend, int silver) {
        return guarded(() -> {
            check(Integer.toString(saw).matches("[1-8]{1,5}") && in(bend, 0, 7) && in(silver, 1, 30), -1);
            check(world.glasses.size() < 6, -5);
            Glass g = new Glass();
            for (char c : Integer.toString(saw).toCharArray()) {
                g.saw.add(c - '1');
            }
            g.bend = bend;
            g.silver = silver;
            world.glasses.add(g);
            undone.clear();
            undoneKinds.clear();
            return world.glasses.size() - 1;
        });
    }

    int of(int mirror, int what) {
        if (!world.has(mirror) || !in(what, 0, 9)) {
            return -1;
        }
        Glass g = world.glasses.get(mirror);
        return switch (what) {
            case 0 -> g.saw.size();
            case 1 -> g.bend;
            case 2 -> g.silver;
            case 3 -> world.line.indexOf(mirror);
            case 4 -> world.wears(mirror);
            default -> what - 5 < g.saw.size() ? g.saw.get(what - 5) : -1;
        };
    }

    int at(int place) {
        return in(place, 0, world.line.size() - 1) ? world.line.get(place) : -1;
    }

    int asks(int mirror, int place, int hour, int what) {
        if (!world.has(mirror) || !in(place, 0, 5) || !in(hour, 1, 8) || !in(what, 0, 1)) {
            return -1;
        }
        return what == 1 ? (world.barred(mirror, place) ? 1 : 0)
                : world.makesAt(world.inForce(), mirror, place, hour);
    }

    int crack(int one, int other, int is) {
        return guarded(() -> {
            check(one != other && in(is, 0, 1), -1);
            check(world.has(one) && world.has(other), -2);
            int was = world.crack[one][other] ? 1 : 0;
            world.crack[one][other] = is == 1;
            world.crack[other][one] = is == 1;
            return was;
        });
    }

    int part(int part, int what) {
        if (!in(part, 0, 7) || !in(what, 0, 2)) {
            return -1;
        }
        return what == 0 ? world.stock[part] : what == 1 ? world.clock[part]
                : world.paid(world.inForce(), part);
    }

    int clock(int part, int n) {
        return guarded(() -> {
            check(in(part, 0, 7) && in(n, 0, 3), -1);
            int was = world.clock[part];
            world.clock[part] = n;
            return was;
        });
    }

    int terms(int what, int value) {
        return guarded(() -> {
            int[] low = {0, 0, 0, 1};
            int[] high = {999, 10, 9, 8};
            check(in(what, 0, 3) && in(value, low[what], high[what]), -1);
            int was = world.terms[what];
            world.terms[what] = value;
            undone.clear();
            undoneKinds.clear();
            return was;
        });
    }

    int feed(int a, int b, int c, int d, int e) {
        if (length + 20 > 400) {
            return -1;
        }
        for (int n : new int[] {a, b, c, d, e}) {
            tape[length++] = n >>> 24;
            tape[length++] = n >>> 16 & 255;
            tape[length++] = n >>> 8 & 255;
            tape[length++] = n & 255;
        }
        return length;
    }

    int end(int n) {
        if (!in(n, 0, length)) {
            return -1;
        }
        length = n;
        return n;
    }

    int row() {
        return guarded(() -> {
            check(length > 0, -6);
            int came = 0;
            screws = 0;
            for (int i = 0; i < length; i++) {
                if (tape[i] <= 7 && world.clock[tape[i]] < 3) {
                    world.clock[tape[i]]++;
                    came++;
                } else {
                    screws++;
                }
            }
            length = 0;
            return came;
        });
    }

    int screws() {
        return screws;
    }

    List<Clause> readTape(boolean laws) {
        Grammar g = new Grammar(tape, length, laws);
        length = 0;
        fault = -1;
        try {
            return g.text();
        } catch (Fault f) {
            fault = f.at;
            throw new Refused(-6);
        }
    }

    int law() {
        return guarded(() -> {
            if (world.laws.size() == 6) {
                length = 0;
                throw new Refused(-5);
            }
            world.laws.add(readTape(true));
            return world.laws.size() - 1;
        });
    }

    int orders() {
        return guarded(() -> {
            stopped = -1;
            List<Clause> text = readTape(false);
            World before = world.copy();
            List<World> beforeUndone = new ArrayList<>(undone);
            List<Integer> beforeKinds = new ArrayList<>(undoneKinds);
            int done = 0;
            int latest = -1;
            for (int i = 0; i < text.size(); i++) {
                Clause c = text.get(i);
                for (int k = 0; k < c.times; k++) {
                    Map<String, Long> words = orderWords(done, latest);
                    if (c.test != null && !isSo(c.test, words)) {
                        continue;
                    }
                    try {
                        int first = c.first == null ? 0 : (int) c.first.of(words);
                        int second = c.second == null ? 0 : (int) c.second.of(words);
                        int answer = change(Arrays.asList("hang", "down", "polish", "pass").indexOf(c.verb),
                                first, second);
                        latest = c.verb.equals("pass") ? answer : latest;
                    } catch (Broken | Refused r) {
                        world = before;
                        undone = beforeUndone;
                        undoneKinds = beforeKinds;
                        stopped = i;
                        throw new Refused(-3);
                    }
                    done++;
                }
            }
            return done;
        });
    }

    static boolean isSo(Bool test, Map<String, Long> words) {
        try {
            return test.of(words);
        } catch (Broken b) {
            return false;
        }
    }

    Map<String, Long> orderWords(int done, int latest) {
        Map<String, Long> m = new HashMap<>();
        m.put("night", (long) world.terms[0]);
        m.put("done", (long) done);
        m.put("latest", (long) latest);
        m.put("hung", (long) world.line.size());
        for (int i = 0; i < 6; i++) {
            m.put("silver" + i, world.has(i) ? world.glasses.get(i).silver : -1L);
        }
        for (int i = 0; i < 8; i++) {
            m.put("stock" + i, (long) world.stock[i]);
        }
        return m;
    }

    int change(int kind, int mirror, int by) {
        World before = world.copy();
        int answer = kind == 0 ? world.hang(mirror) : kind == 1 ? world.down(mirror)
                : kind == 2 ? world.polish(mirror, by) : world.pass();
        undone.add(before);
        undoneKinds.add(kind);
        if (undone.size() > 16) {
            undone.remove(0);
            undoneKinds.remove(0);
        }
        return answer;
    }

    int fault() {
        return fault;
    }

    int stopped() {
        return stopped;
    }

    int force(int law) {
        return guarded(() -> {
            check(in(law, -1, world.laws.size() - 1), -2);
            int was = world.force;
            world.force = law;
            return was;
        });
    }

    int hang(int mirror) {
        return guarded(() -> change(0, mirror, 0));
    }

    int down(int mirror) {
        return guarded(() -> change(1, mirror, 0));
    }

    int polish(int mirror, int by) {
        return guarded(() -> change(2, mirror, by));
    }

    int pass() {
        return guarded(() -> change(3, 0, 0));
    }

    /** Only what the four calls change comes again; clock, cracks and the like stay as they are now. */
    int undo() {
        return guarded(() -> {
            check(!undone.isEmpty(), -3);
            World then = undone.remove(undone.size() - 1);
            world.line = new ArrayList<>(then.line);
            world.stock = then.stock.clone();
            world.terms[0] = then.terms[0];
            for (int i = 0; i < world.glasses.size(); i++) {
                world.glasses.get(i).silver = then.glasses.get(i).silver;
            }
            return undoneKinds.remove(undoneKinds.size() - 1);
        });
    }

    int makes(int hour) {
        return in(hour, 1, 8) ? world.setAt(world.line, hour) : -1;
    }

    int whole(int hour, int i) {
        if (!in(hour, 1, 8)) {
            return -1;
        }
        for (int n = 0; n <= world.glasses.size(); n++) {
            for (List<Integer> row : world.linesOf(n)) {
                if (world.offBy(row, hour) == 0) {
                    return i == -1 ? n : in(i, 0, n - 1) ? row.get(i) : -1;
                }
            }
        }
        return -1;
    }

    int near(int hour) {
        if (!in(hour, 1, 8)) {
            return -1;
        }
        int least = Integer.MAX_VALUE;
        for (int n = 0; n <= world.glasses.size(); n++) {
            for (List<Integer> row : world.linesOf(n)) {
                least = Math.min(least, world.offBy(row, hour));
            }
        }
        return least;
    }

    int hear(int hour, int part, int made) {
        return guarded(() -> {
            check(in(hour, 1, 8) && in(part, 0, 7) && in(made, 0, 1), -1);
            check(world.heard.size() < 8, -5);
            world.heard.add(new int[] {hour, part, made});
            return world.heard.size();
        });
    }

    int forget() {
        int was = world.heard.size();
        world.heard.clear();
        return was;
    }

    List<List<Integer>> heardLines(int n) {
        List<List<Integer>> all = new ArrayList<>();
        for (List<Integer> row : world.linesOf(n)) {
            boolean so = true;
            for (int[] h : world.heard) {
                so = so && (world.setAt(row, h[0]) >> h[1] & 1) == h[2];
            }
            if (so) {
                all.add(row);
            }
        }
        return all;
    }

    int lines(int n, int i, int place) {
        if (!in(n, 0, 6)) {
            return -1;
        }
        List<List<Integer>> all = heardLines(n);
        if (i == -1) {
            return all.size();
        }
        return in(i, 0, all.size() - 1) && in(place, 0, n - 1) ? all.get(i).get(place) : -1;
    }

    int listen(int n, int what) {
        if (!in(n, 0, 6) || !in(what, 0, 1)) {
            return -1;
        }
        List<List<Integer>> all = heardLines(n);
        if (all.isEmpty()) {
            return -1;
        }
        int best = 0;
        int fewest = Integer.MAX_VALUE;
        for (int hour = 1; hour <= 8; hour++) {
            Map<Integer, Integer> groups = new HashMap<>();
            int most = 0;
            for (List<Integer> row : all) {
                most = Math.max(most, groups.merge(world.setAt(row, hour), 1, Integer::sum));
            }
            if (most < fewest) {
                fewest = most;
                best = hour;
            }
        }
        return what == 0 ? best : fewest;
    }

    int face(int one, int other, int part, int what) {
        if (!world.has(one) || !world.has(other) || !in(part, 0, 7) || !in(what, 0, 1)) {
            return -1;
        }
        List<Integer> seen = new ArrayList<>();
        int p = part;
        while (!seen.contains(p)) {
            seen.add(p);
            p = world.makesOf(world.inForce(), one, 0, 1, p);
            p = world.makesOf(world.inForce(), other, 0, 1, p);
        }
        return what == 0 ? seen.indexOf(p) : seen.size() - seen.indexOf(p);
    }

    int union(int mirror) {
        if (!world.has(mirror)) {
            return -1;
        }
        boolean[] in = new boolean[6];
        List<Integer> open = new ArrayList<>();
        open.add(mirror);
        while (!open.isEmpty()) {
            int m = open.remove(0);
            in[m] = true;
            for (int k = 0; k < 6; k++) {
                if (world.crack[m][k] && !in[k]) {
                    open.add(k);
                }
            }
        }
        int bits = 0;
        for (int k = 0; k < 6; k++) {
            bits |= in[k] ? 1 << k : 0;
        }
        return bits;
    }

    int ends(int n) {
        if (!in(n, 0, 60)) {
            return -1;
        }
        World w = world.copy();
        for (int i = 0; i < n; i++) {
            w.night();
        }
        int bits = 0;
        for (int m = 0; m < w.glasses.size(); m++) {
            bits |= w.glasses.get(m).silver == 0 ? 1 << m : 0;
        }
        return bits;
    }

    int till() {
        World w = world.copy();
        for (int n = 0; n <= 30; n++) {
            boolean all = true;
            for (int p = 0; p < 8; p++) {
                all = all && w.stock[p] >= w.clock[p];
            }
            if (all) {
                return n;
            }
            w.night();
        }
        return -1;
    }

    int twins(int i) {
        List<Integer> all = new ArrayList<>();
        for (int a = 0; a < world.glasses.size(); a++) {
            for (int b = a + 1; b < world.glasses.size(); b++) {
                boolean same = true;
                for (int hour = 1; hour <= 8; hour++) {
                    same = same && world.makesAt(world.inForce(), a, 0, hour)
                            == world.makesAt(world.inForce(), b, 0, hour);
                }
                if (same) {
                    all.add(a * 10 + b);
                }
            }
        }
        return i == -1 ? all.size() : in(i, 0, all.size() - 1) ? all.get(i) : -1;
    }

    long lasts(int mirror, int n) {
        if (!world.has(mirror) || !in(n, 0, 60)) {
            return -1;
        }
        long[] p = new long[31];
        p[world.glasses.get(mirror).silver] = 1_000_000_000_000L;
        long flakes = world.terms[1];
        for (int i = 0; i < n; i++) {
            long[] q = new long[31];
            q[0] = p[0];
            for (int s = 1; s <= 30; s++) {
                q[s] += p[s] * (10 - flakes) / 10;
                q[s - 1] += p[s] * flakes / 10;
            }
            p = q;
        }
        long sum = 0;
        for (int s = 1; s <= 30; s++) {
            sum += p[s];
        }
        return sum;
    }

    int wages(int law) {
        if (!in(law, -1, world.laws.size() - 1)) {
            return -1;
        }
        List<Clause> text = law == -1 ? new ArrayList<>() : world.laws.get(law);
        int sum = 0;
        for (int hour = 1; hour <= world.terms[3]; hour++) {
            for (int place = 0; place < world.line.size(); place++) {
                int part = world.makesAt(text, world.line.get(place), place, hour);
                if (part >= 0) {
                    sum += world.paid(text, part);
                }
            }
        }
        return sum;
    }

    int years(int seed, int n) {
        return guarded(() -> {
            check(in(seed, 0, 1_000_000) && in(n, 1, 60), -1);
            check(!world.glasses.isEmpty(), -3);
            World w = world.copy();
            long s = seed;
            int made = 0;
            for (int i = 0; i < n; i++) {
                if (w.terms[0] == 999) {
                    break;
                }
                s = (s * 1103 + 12345) % 1_000_003;
                int mirror = (int) (s % w.glasses.size());
                s = (s * 1103 + 12345) % 1_000_003;
                try {
                    if (s % 3 == 0) {
                        w.hang(mirror);
                    } else if (s % 3 == 1) {
                        w.down(mirror);
                    }
                } catch (Refused r) {
                    // It can't be, so it is not.
                }
                made += w.night();
            }
            years = w;
            return made;
        });
    }

    int drawn(int k, int what) {
        if (years == null) {
            return -1;
        }
        if (what == 0) {
            return in(k, 0, 7) ? years.stock[k] : -1;
        }
        if (!years.has(k)) {
            return -1;
        }
        return what == 1 ? years.glasses.get(k).silver : what == 2 ? years.line.indexOf(k) : -1;
    }

    int image(int k) {
        return guarded(() -> {
            check(in(k, 0, 1), -1);
            images[k] = world.copy();
            return 0;
        });
    }

    int back(int k) {
        return guarded(() -> {
            check(in(k, 0, 1), -1);
            check(images[k] != null, -2);
            world = images[k].copy();
            undone.clear();
            undoneKinds.clear();
            return 0;
        });
    }

    int count(int what) {
        return switch (what) {
            case 0 -> world.glasses.size();
            case 1 -> world.line.size();
            case 2 -> Arrays.stream(world.stock).sum();
            case 3 -> world.heard.size();
            case 4 -> world.laws.size();
            case 5 -> undone.size();
            case 6 -> length;
            case 7 -> refused[1];
            case 8 -> refused[2];
            case 9 -> refused[3];
            case 10 -> refused[5];
            case 11 -> refused[6];
            case 12 -> world.force;
            case 13, 14, 15, 16 -> world.terms[what - 13];
            default -> -1;
        };
    }

    int status() {
        return status;
    }
}
