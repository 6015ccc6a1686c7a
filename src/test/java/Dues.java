/** What the tests of answers that are due share: the tally, and short ways to make objects and texts. */
abstract class Dues {
    static final int NONE = NightMirrors.NONE;
    static final int LEAST = Integer.MIN_VALUE;
    static final int MOST = Integer.MAX_VALUE;
    private static int wrong = 0;
    private static int asked = 0;
    private static int sentences = 0;
    private static String sentence = "";

    /** A call with one of its numbers left open. */
    interface Call {
        long with(NightMirrors x, int number);
    }

    /** Makes an object with a past. */
    interface Maker {
        NightMirrors make();
    }

    /** The place or the sentence of the document by which the answers from here on are due. */
    static void says(String of) {
        sentences++;
        sentence = of;
    }

    static void due(String call, long got, long want) {
        asked++;
        if (got != want) {
            wrong++;
            System.out.println(sentence + ": " + call + " answered " + got + ", due is " + want);
        }
    }

    static void finish(String of) {
        System.out.println(asked + " answers for " + sentences + " " + of + ", " + wrong + " wrong");
        if (wrong != 0) {
            System.exit(1);
        }
    }

    /** A number of a call: the lowest and the highest that can be, and all that can't be answer the same. */
    static void edges(String call, Maker maker, Call c, int low, long atLow, int high, long atHigh, long outside) {
        due(call + " with " + low, c.with(maker.make(), low), atLow);
        due(call + " with " + high, c.with(maker.make(), high), atHigh);
        for (int number : new int[] {low - 1, high + 1, LEAST, MOST}) {
            due(call + " with " + number, c.with(maker.make(), number), outside);
        }
    }

    static String times(String text, int n) {
        return text.repeat(n);
    }

    static void say(NightMirrors x, String text) {
        due("end of what was fed", Texts.put(x, text), text.length());
    }

    static int law(NightMirrors x, String text) {
        say(x, text);
        return x.law();
    }

    static int orders(NightMirrors x, String text) {
        say(x, text);
        return x.orders();
    }

    static int row(NightMirrors x, int... bytes) {
        StringBuilder b = new StringBuilder();
        for (int one : bytes) {
            b.append((char) one);
        }
        say(x, b.toString());
        return x.row();
    }

    /** A law that is at once in force, on a new object. */
    static NightMirrors under(String text) {
        NightMirrors x = new NightMirrors();
        enforce(x, text);
        return x;
    }

    static void enforce(NightMirrors x, String text) {
        int number = law(x, text);
        due(text, number, x.count(4) - 1);
        x.force(number);
    }

    /** Mirrors with silver 30 and no bend, each of which saw the part of its own number alone. */
    static NightMirrors glasses(int n) {
        return addGlasses(new NightMirrors(), n);
    }

    static NightMirrors addGlasses(NightMirrors x, int n) {
        for (int i = 0; i < n; i++) {
            x.mirror(i + 1, 0, 30);
        }
        return x;
    }

    static NightMirrors hangAll(NightMirrors x) {
        for (int i = 0; i < x.count(0); i++) {
            due("hang(" + i + ")", x.hang(i), i);
        }
        return x;
    }

    static void faulty(boolean ofLaws, String text, int at) {
        NightMirrors x = new NightMirrors();
        due(text, ofLaws ? law(x, text) : orders(x, text), -6);
        due("fault of " + text, x.fault(), at);
        due("tape behind " + text, x.count(6), 0);
    }

    static void good(String text) {
        NightMirrors x = new NightMirrors();
        due(text, law(x, text), 0);
        due("fault of " + text, x.fault(), NONE);
    }

    /** Orders that can be read; none of them need be one that can be. */
    static void goodOrders(String text) {
        NightMirrors x = new NightMirrors();
        int answer = orders(x, text);
        due(text + " can be read", answer >= 0 || answer == -3 ? 1 : 0, 1);
        due("fault of " + text, x.fault(), NONE);
    }

    /** What the sum tells, as a wage of 0 .. 99 for part 0; 77 if it is broken. */
    static void sum(String sum, int want) {
        due(sum, under("pays 77;pays " + sum).part(0, 2), want);
    }

    /** Whether the test is so; a broken one is not. */
    static void test(String test, boolean so) {
        due(test, under("pays 0;pays 1 if " + test).part(0, 2), so ? 1 : 0);
    }

    /** A test that is broken is not so, and what is not so of it isn't either. */
    static void brokenTest(String test) {
        test(test, false);
        test("not (" + test + ")", false);
    }

    static void stocks(String when, NightMirrors x, int... want) {
        for (int part = 0; part < want.length; part++) {
            due(when + ": part(" + part + ", 0)", x.part(part, 0), want[part]);
        }
    }

    static void clocks(String when, NightMirrors x, int... want) {
        for (int part = 0; part < want.length; part++) {
            due(when + ": part(" + part + ", 1)", x.part(part, 1), want[part]);
        }
    }

    static void line(String when, NightMirrors x, int... want) {
        for (int place = 0; place < want.length; place++) {
            due(when + ": at(" + place + ")", x.at(place), want[place]);
            due(when + ": of(" + want[place] + ", 3)", x.of(want[place], 3), place);
        }
        due(when + ": at(" + want.length + ")", x.at(want.length), NONE);
        due(when + ": count(1)", x.count(1), want.length);
    }
}
