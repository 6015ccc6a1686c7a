/** Terms I, and the numbers of each call: the last that can be and the first that can't, empty and full. */
public final class NumbersBoundsTest extends Dues {
    private static NightMirrors hanging() {
        return hangAll(glasses(6));
    }

    private static void calls() {
        says("An object is used for at most 512 calls");
        NightMirrors x = new NightMirrors();
        int was = 0;
        for (int i = 1; i <= 512; i++) {
            int next = i % 3 + 1;
            due("call " + i, x.clock(7, next), was);
            was = next;
        }
        NightMirrors y = new NightMirrors();
        y.mirror(1, 0, 30);
        for (int i = 1; i <= 510; i++) {
            due("night " + i, y.pass(), 0);
        }
        due("the 512th call", y.count(13), 510);
    }

    private static void parts() {
        says("PARTS 0 .. 7");
        edges("part(.., 0)", () -> fed(0, 7), (x, k) -> x.part(k, 1), 0, 1, 7, 1, NONE);
        edges("clock(.., 2)", NightMirrors::new, (x, k) -> x.clock(k, 2), 0, 0, 7, 0, -1);
        edges("hear(1, .., 0)", NightMirrors::new, (x, k) -> x.hear(1, k, 0), 0, 1, 7, 1, -1);
        edges("face(0, 0, .., 1)", () -> glasses(1), (x, k) -> x.face(0, 0, k, 1), 0, 1, 7, 1, NONE);
        edges("drawn(.., 0)", () -> drawnOnce(), (x, k) -> x.drawn(k, 0), 0, 1, 7, 2, NONE);
        int[] bytes = {0, 7, 8, 127, 128, 255};
        for (int one : bytes) {
            due("row of " + one, row(new NightMirrors(), one), one < 8 ? 1 : 0);
        }
    }

    private static NightMirrors fed(int... bytes) {
        NightMirrors x = new NightMirrors();
        row(x, bytes);
        return x;
    }

    /** Years in which part 0 is made once and part 7 twice. */
    private static NightMirrors drawnOnce() {
        NightMirrors x = new NightMirrors();
        x.mirror(818, 0, 30);
        x.hang(0);
        x.terms(3, 3);
        x.years(29, 1);
        return x;
    }

    private static void mirrors() {
        says("MIRRORS 0 .. 5 (6 at most)");
        NightMirrors x = new NightMirrors();
        for (int i = 0; i < 6; i++) {
            due("mirror " + i, x.mirror(i + 1, i, i + 1), i);
            due("count(0)", x.count(0), i + 1);
        }
        due("a seventh", x.mirror(8, 7, 30), -5);
        due("count(0)", x.count(0), 6);
        for (int i = 0; i < 6; i++) {
            due("of(" + i + ", 5)", x.of(i, 5), i);
            due("of(" + i + ", 1)", x.of(i, 1), i);
            due("of(" + i + ", 2)", x.of(i, 2), i + 1);
        }
        for (int n = 0; n <= 6; n++) {
            mirrorNumbers(n);
        }
    }

    /** Of n mirrors the first and the last one are, the next one and all others are not. */
    private static void mirrorNumbers(int n) {
        for (int k : new int[] {LEAST, -1, 0, n - 1, n, 5, 6, MOST}) {
            boolean is = k >= 0 && k < n;
            String of = n + " mirrors, the one " + k;
            due("of: " + of, glasses(n).of(k, 5), is ? k : NONE);
            due("asks 0: " + of, glasses(n).asks(k, 0, 1, 0), is ? k : NONE);
            due("asks 1: " + of, glasses(n).asks(k, 0, 1, 1), is ? 0 : NONE);
            due("hang: " + of, glasses(n).hang(k), is ? 0 : -2);
            due("down: " + of, glasses(n).down(k), is ? -3 : -2);
            due("polish: " + of, glasses(n).polish(k, 1), is ? -3 : -2);
            due("union: " + of, glasses(n).union(k), is ? 1 << k : NONE);
            due("lasts: " + of, glasses(n).lasts(k, 0), is ? 1000000000000L : NONE);
            due("face, the one: " + of, glasses(n).face(k, 0, 3, 1), is ? 1 : NONE);
            due("face, the other: " + of, glasses(n).face(0, k, 3, 1), is ? 1 : NONE);
            due("crack, the one: " + of, glasses(n).crack(k, 0, 1), k == 0 ? -1 : is ? 0 : -2);
            due("crack, the other: " + of, glasses(n).crack(0, k, 1), k == 0 ? -1 : is ? 0 : -2);
            NightMirrors x = glasses(n);
            x.years(5, 1);
            due("drawn 1: " + of, x.drawn(k, 1) > 0 ? 1 : 0, is ? 1 : 0);
        }
    }

    private static void saw() {
        says("what it SAW, a row of 1 .. 5 PARTS ... each as a digit 1 more than it (1 .. 8)");
        int[] bad = {LEAST, -88888, -1, 0, 9, 100000, 111111, 888888, 1111111111, MOST};
        for (int number : bad) {
            due("mirror(" + number + ", 0, 1)", new NightMirrors().mirror(number, 0, 1), -1);
        }
        int place = 1;
        int ones = 1;
        for (int length = 1; length <= 5; length++) {
            sawOf(ones, length);
            place *= 10;
            ones += place;
        }
    }

    /** A row of so many ones, and each of its digits from one below to one above what it can be. */
    private static void sawOf(int ones, int length) {
        int place = 1;
        for (int k = length - 1; k >= 0; k--) {
            for (int digit = 0; digit <= 9; digit++) {
                // Without its highest digit a number is a shorter one that can be.
                if (k == 0 && digit == 0) {
                    continue;
                }
                int number = ones + (digit - 1) * place;
                boolean can = digit >= 1 && digit <= 8;
                NightMirrors x = new NightMirrors();
                due("mirror(" + number + ", 0, 1)", x.mirror(number, 0, 1), can ? 0 : -1);
                due("how many of " + number, x.of(0, 0), can ? length : NONE);
                for (int i = 0; i <= 5; i++) {
                    int want = !can || i >= length ? NONE : i == k ? digit - 1 : 0;
                    due("part " + i + " of " + number, x.of(0, 5 + i), want);
                }
            }
            place *= 10;
        }
    }

    private static void bendAndSilver() {
        says("BEND 0 .. 7, SILVER 1 .. 30");
        edges("bend", NightMirrors::new, (x, k) -> x.mirror(1, k, 1), 0, 0, 7, 0, -1);
        edges("bend kept", NightMirrors::new, (x, k) -> x.mirror(1, k, 1) + x.of(0, 1), 0, 0, 7, 7, -2);
        edges("silver", NightMirrors::new, (x, k) -> x.mirror(1, 0, k), 1, 0, 30, 0, -1);
        edges("silver kept", NightMirrors::new, (x, k) -> x.mirror(1, 0, k) + x.of(0, 2), 1, 1, 30, 30, -2);
    }

    private static void of() {
        says("Of a MIRROR ... the PART at k 0 .. 4 (5 + k; NONE: not so many)");
        NightMirrors five = new NightMirrors();
        five.mirror(12348, 3, 30);
        edges("of(0, ..)", () -> five, (x, k) -> x.of(0, k), 0, 5, 9, 7, NONE);
        NightMirrors one = new NightMirrors();
        one.mirror(8, 0, 30);
        edges("of(0, ..) of one part", () -> one, (x, k) -> x.of(0, k), 0, 1, 5, 7, NONE);
        due("of(0, 3), it hangs nowhere", one.of(0, 3), NONE);
        one.hang(0);
        due("of(0, 3), the first place", one.of(0, 3), 0);
        NightMirrors all = hanging();
        due("of(5, 3), the last place", all.of(5, 3), 5);
        due("status() behind these", all.status(), 0);
    }

    private static void at() {
        says("Which MIRROR hangs at a PLACE. NONE.");
        due("at(0) of an empty line", glasses(6).at(0), NONE);
        for (int n = 1; n <= 6; n++) {
            int last = n - 1;
            edges("at(..) of " + n, () -> hangAll(glasses(last + 1)), (x, k) -> x.at(k), 0, 0, last, last, NONE);
        }
    }

    private static void asks() {
        says("What a MIRROR would MAKE at PLACE p 0 .. 5 at an HOUR 1 .. 8");
        NightMirrors x = glasses(6);
        edges("asks(3, .., 8, 0)", () -> x, (y, k) -> y.asks(3, k, 8, 0), 0, 3, 5, 3, NONE);
        edges("asks(3, .., 8, 1)", () -> x, (y, k) -> y.asks(3, k, 8, 1), 0, 0, 5, 0, NONE);
        edges("asks(3, 0, .., 0)", () -> x, (y, k) -> y.asks(3, 0, k, 0), 1, 3, 8, 3, NONE);
        edges("asks(3, 0, 1, ..)", () -> x, (y, k) -> y.asks(3, 0, 1, k), 0, 3, 1, 0, NONE);
        says("NONE: it does not work yet");
        for (int place = 0; place < 6; place++) {
            for (int hour = 1; hour <= 8; hour++) {
                due("asks(4, " + place + ", " + hour + ", 0)", x.asks(4, place, hour, 0), hour > place ? 4 : NONE);
                due("asks(4, " + place + ", " + hour + ", 1)", x.asks(4, place, hour, 1), 0);
            }
        }
        due("status()", x.status(), 0);
    }

    private static void cracks() {
        says("CRACKS of two of them, or not (at first)");
        NightMirrors x = glasses(6);
        for (int one = 0; one < 6; one++) {
            for (int other = 0; other < 6; other++) {
                due("crack(" + one + ", " + other + ", 0)", x.crack(one, other, 0), one == other ? -1 : 0);
            }
            due("union(" + one + ")", x.union(one), 1 << one);
        }
        says("CRACKS of two MIRRORS, or none (1, 0): what it was. -1 (with itself); -2.");
        edges("crack(0, 5, ..)", () -> glasses(6), (y, k) -> y.crack(0, 5, k), 0, 0, 1, 0, -1);
        due("crack(0, 5, 1)", x.crack(0, 5, 1), 0);
        due("crack(5, 0, 1)", x.crack(5, 0, 1), 1);
        due("crack(5, 0, 2)", x.crack(5, 0, 2), -1);
        due("crack(5, 5, 0)", x.crack(5, 5, 0), -1);
        due("union(0)", x.union(0), 0b100001);
        due("crack(5, 0, 0)", x.crack(5, 0, 0), 1);
        due("crack(0, 5, 0)", x.crack(0, 5, 0), 0);
        due("union(0)", x.union(0), 1);
    }

    private static void parted() {
        says("STOCK of a PART (what 0), how many the CLOCK has (1), what it is PAID (2). NONE.");
        NightMirrors x = under("pays 99");
        edges("part(0, ..)", () -> x, (y, k) -> y.part(0, k), 0, 0, 2, 99, NONE);
        says("STOCK of each PART 0 .. 99 (0 at first). The CLOCK: of each PART 0 .. 3 (0 at first)");
        stocks("a new one", new NightMirrors(), 0, 0, 0, 0, 0, 0, 0, 0);
        clocks("a new one", new NightMirrors(), 0, 0, 0, 0, 0, 0, 0, 0);
        for (int part = 0; part < 8; part++) {
            int k = part;
            edges("clock(" + k + ", ..)", NightMirrors::new, (y, n) -> y.clock(k, n), 0, 0, 3, 0, -1);
            edges("kept", NightMirrors::new, (y, n) -> y.clock(k, n) * 10 + y.part(k, 1), 0, 0, 3, 3, -10);
        }
        NightMirrors full = new NightMirrors();
        full.clock(3, 3);
        due("clock(3, 4)", full.clock(3, 4), -1);
        due("clock(3, -1)", full.clock(3, -1), -1);
        clocks("behind refused ones", full, 0, 0, 0, 3, 0, 0, 0, 0);
    }

    private static void terms() {
        says("TERMS: 0 NIGHT 0 .. 999 (0 at first), 1 FLAKES 0 .. 10 (3), 2 MOOD 0 .. 9 (0), 3 HOURS 1 .. 8 (6)");
        int[] first = {0, 3, 0, 6};
        int[] low = {0, 0, 0, 1};
        int[] high = {999, 10, 9, 8};
        for (int what = 0; what < 4; what++) {
            int w = what;
            int f = first[what];
            due("count(" + (13 + w) + ")", new NightMirrors().count(13 + w), f);
            edges("terms(" + w + ", ..)", NightMirrors::new, (x, n) -> x.terms(w, n), low[w], f, high[w], f, -1);
            for (int value : new int[] {low[w], high[w]}) {
                NightMirrors x = new NightMirrors();
                x.terms(w, value);
                due("too low", x.terms(w, low[w] - 1), -1);
                due("too high", x.terms(w, high[w] + 1), -1);
                for (int other = 0; other < 4; other++) {
                    due("count(" + (13 + other) + ")", x.count(13 + other), other == w ? value : first[other]);
                }
            }
        }
        edges("terms(.., 1)", NightMirrors::new, (x, k) -> x.terms(k, 1), 0, 0, 3, 6, -1);
    }

    private static void heard() {
        says("HEARD, 8 at most: at an HOUR 1 .. 8 a PART was made by any (1), or by none (0)");
        edges("hear(.., 7, 1)", NightMirrors::new, (x, k) -> x.hear(k, 7, 1), 1, 1, 8, 1, -1);
        edges("hear(8, 0, ..)", NightMirrors::new, (x, k) -> x.hear(8, 0, k), 0, 1, 1, 1, -1);
        NightMirrors x = glasses(2);
        for (int i = 1; i <= 8; i++) {
            due("hear " + i, x.hear(8, 1, 0), i);
        }
        due("lines(1, NONE, 0)", x.lines(1, NONE, 0), 1);
        due("a ninth", x.hear(8, 0, 0), -5);
        due("count(3)", x.count(3), 8);
        due("lines(1, NONE, 0), the ninth is not heard", x.lines(1, NONE, 0), 1);
        due("forget()", x.forget(), 8);
        due("forget() of nothing", x.forget(), 0);
        due("lines(1, NONE, 0)", x.lines(1, NONE, 0), 2);
        due("hear once more", x.hear(8, 0, 0), 1);
    }

    private static void refusedInOrder() {
        says("REFUSED by ... The first of these in that order");
        NightMirrors six = glasses(6);
        due("mirror: -1 ahead of -5", six.mirror(9, 0, 1), -1);
        due("mirror: -1 ahead of -5", six.mirror(1, 8, 1), -1);
        due("mirror: -1 ahead of -5", six.mirror(1, 0, 31), -1);
        due("mirror: -5", six.mirror(1, 0, 1), -5);
        due("crack: -1 ahead of -2", six.crack(0, 6, 2), -1);
        due("crack: -1 ahead of -2", six.crack(6, 6, 1), -1);
        due("crack: -2", six.crack(6, 0, 1), -2);
        due("polish: -1 ahead of -2, -3", six.polish(6, 31), -1);
        due("polish: -2 ahead of -3", six.polish(6, 30), -2);
        due("polish: -3", six.polish(5, 30), -3);
        for (int i = 0; i < 8; i++) {
            six.hear(1, 0, 0);
        }
        due("hear: -1 ahead of -5", six.hear(9, 0, 0), -1);
        due("hear: -1 ahead of -5", six.hear(1, 8, 0), -1);
        due("hear: -1 ahead of -5", six.hear(1, 0, 2), -1);
        due("hear: -5", six.hear(1, 0, 0), -5);
        NightMirrors none = new NightMirrors();
        due("years: -1 ahead of -3", none.years(1000001, 1), -1);
        due("years: -1 ahead of -3", none.years(0, 61), -1);
        due("years: -3", none.years(0, 60), -3);
        due("back: -1 ahead of -2", none.back(2), -1);
        due("back: -2", none.back(1), -2);
        for (int i = 0; i < 6; i++) {
            law(none, "bars");
        }
        due("law: -5 ahead of -6", law(none, "?"), -5);
        due("law: -5 ahead of -6, empty", none.law(), -5);
    }

    private static void tape() {
        says("a TAPE of at most 400 bytes ... NONE, if there would be more than 400");
        NightMirrors x = new NightMirrors();
        for (int bytes = 20; bytes <= 400; bytes += 20) {
            due("feed to " + bytes, x.feed(0, 0, 0, 0, 0), bytes);
        }
        due("feed to 420", x.feed(0, 0, 0, 0, 0), NONE);
        due("count(6)", x.count(6), 400);
        for (int had : new int[] {399, 381}) {
            due("end(" + had + ")", x.end(had), had);
            due("feed behind " + had, x.feed(1, 1, 1, 1, 1), NONE);
            due("count(6)", x.count(6), had);
        }
        due("end(380)", x.end(380), 380);
        due("feed behind 380", x.feed(0, 0, 0, 0, 7), 400);
        due("row of 400", x.row(), 4);
        due("screws()", x.screws(), 396);
        clocks("the 400th", x, 3, 0, 0, 0, 0, 0, 0, 1);
        due("count(6)", x.count(6), 0);
        due("status()", x.status(), 0);
        says("four of each number, the highest first");
        NightMirrors y = new NightMirrors();
        y.feed(0x01080808, 0x08020808, 0x08080308, 0x08080804, 0xff050607);
        due("row", y.row(), 7);
        clocks("bytes of the numbers", y, 0, 1, 1, 1, 1, 1, 1, 1);
        NightMirrors z = new NightMirrors();
        z.feed(0x70617973, 0x20202020, 0x20202020, 0x20202020, 0x20203132);
        due("law of pays 12", z.law(), 0);
        z.force(0);
        due("part(0, 2)", z.part(0, 2), 12);
    }

    private static void end() {
        says("NONE, if it has not so many, or n is below 0");
        NightMirrors empty = new NightMirrors();
        edges("end of none", () -> empty, (x, n) -> x.end(n), 0, 0, 0, 0, NONE);
        NightMirrors full = new NightMirrors();
        for (int i = 0; i < 20; i++) {
            full.feed(0, 0, 0, 0, 0);
        }
        due("end(401)", full.end(401), NONE);
        due("end(400)", full.end(400), 400);
        due("end(-1)", full.end(-1), NONE);
        due("count(6)", full.count(6), 400);
        due("end(1)", full.end(1), 1);
        due("end(2), the others are gone", full.end(2), NONE);
        due("end(0)", full.end(0), 0);
        due("row of none", full.row(), -6);
        NightMirrors x = new NightMirrors();
        x.feed(0, 0, 0, 0, 0);
        x.end(1);
        x.feed(0x01010808, 0x08080808, 0x08080808, 0x08080808, 0x08080808);
        due("what comes behind what was left", x.row(), 3);
        clocks("behind end()", x, 1, 2, 0, 0, 0, 0, 0, 0);
    }

    private static void rows() {
        says("one that can't be (a fourth, too) is a SCREW: nothing");
        NightMirrors x = new NightMirrors();
        due("three", row(x, 5, 5, 5), 3);
        due("screws()", x.screws(), 0);
        due("a fourth", row(x, 5), 0);
        due("screws()", x.screws(), 1);
        clocks("the fourth", x, 0, 0, 0, 0, 0, 3, 0, 0);
        x.clock(5, 2);
        due("a third and a fourth", row(x, 5, 5), 1);
        due("screws()", x.screws(), 1);
        due("what can't be", row(x, 8, 9, 32, 48, 127, 128, 255), 0);
        due("screws()", x.screws(), 7);
        due("all that can", row(new NightMirrors(), 0, 1, 2, 3, 4, 5, 6, 7), 8);
        says("-6 the TAPE is empty; SCREWS the latest row() had that was not REFUSED (0 ahead of any)");
        NightMirrors y = new NightMirrors();
        due("row()", y.row(), -6);
        due("screws() ahead of any", y.screws(), 0);
        row(y, 8, 8);
        due("screws()", y.screws(), 2);
        due("row()", y.row(), -6);
        due("screws() behind a refused one", y.screws(), 2);
        due("a row without", row(y, 7), 1);
        due("screws()", y.screws(), 0);
        due("count(11)", y.count(11), 2);
    }

    private static void laws() {
        says("LAWS, 6 at most; one is in FORCE (NONE at first: no CLAUSE)");
        NightMirrors x = new NightMirrors();
        due("count(12)", x.count(12), NONE);
        due("force(NONE)", x.force(NONE), NONE);
        due("status()", x.status(), 0);
        for (int i = 0; i < 6; i++) {
            due("force(" + i + ")", x.force(i), -2);
            due("wages(" + i + ")", x.wages(i), NONE);
            due("law " + i, law(x, "pays " + (20 + i)), i);
        }
        due("a seventh", law(x, "pays 9"), -5);
        due("the tape is empty then, too", x.count(6), 0);
        due("count(4)", x.count(4), 6);
        edges("force(..)", () -> x, (y, k) -> y.force(k) == -2 ? -2 : y.part(0, 2), 0, 20, 5, 25, -2,
            NONE);
        due("force(NONE)", x.force(NONE), 5);
        due("part(0, 2)", x.part(0, 2), 1);
        edges("wages(..)", () -> x, (y, k) -> y.wages(k), 0, 0, 5, 0, NONE, NONE);
        due("wages(NONE)", x.wages(NONE), 0);
        due("count(8)", x.count(8), 6 + 4);
    }

    /** As edges, but for one number below the lowest that has a meaning of its own. */
    private static void edges(String call, Maker maker, Call c, int low, long atLow, int high, long atHigh,
            long outside, int but) {
        due(call + " with " + low, c.with(maker.make(), low), atLow);
        due(call + " with " + high, c.with(maker.make(), high), atHigh);
        for (int number : new int[] {but - 1, high + 1, LEAST, MOST}) {
            due(call + " with " + number, c.with(maker.make(), number), outside);
        }
    }

    private static void hours() {
        says("at an HOUR 1 .. 8; by an HOUR 1 .. 8");
        edges("makes(..)", () -> hangAll(glasses(2)), (x, h) -> x.makes(h), 1, 1, 8, 3, NONE);
        due("makes(2)", hangAll(glasses(2)).makes(2), 3);
        edges("makes(..) of six", NumbersBoundsTest::hanging, (x, h) -> x.makes(h), 1, 1, 8, 63, NONE);
        due("makes(5) of six", hanging().makes(5), 31);
        due("makes(6) of six", hanging().makes(6), 63);
        edges("makes(..) of none", NightMirrors::new, (x, h) -> x.makes(h), 1, 0, 8, 0, NONE);
        edges("near(..)", () -> fed(0), (x, h) -> addGlasses(x, 1).near(h), 1, 0, 8, 1, NONE);
        edges("whole(.., NONE)", NightMirrors::new, (x, h) -> x.whole(h, NONE), 1, 0, 8, 0, NONE);
    }

    private static void counts() {
        says("13 .. 16 TERMS 0 .. 3. NONE for others");
        NightMirrors x = glasses(2);
        edges("count(..)", () -> x, (y, k) -> y.count(k), 0, 2, 16, 6, NONE);
        says("7 .. 11 how many calls were REFUSED by -1, -2, -3, -5, -6");
        NightMirrors y = glasses(6);
        int[] want = {0, 0, 0, 0, 0};
        int[] by = {-1, -2, -3, -5, -6};
        for (int i = 0; i < 5; i++) {
            for (int time = 0; time <= i; time++) {
                int got = i == 0 ? y.clock(8, 0) : i == 1 ? y.hang(6) : i == 2 ? y.undo() : i == 3 ? y.mirror(1, 0, 1)
                    : y.row();
                due("refused", got, by[i]);
                want[i]++;
                for (int k = 0; k < 5; k++) {
                    due("count(" + (7 + k) + ")", y.count(7 + k), want[k]);
                }
            }
        }
    }

    private static void statuses() {
        says("What the latest call of .. was REFUSED by; 0 if it was not, or ahead of any");
        NightMirrors x = new NightMirrors();
        due("ahead of any", x.status(), 0);
        due("refused", x.mirror(0, 0, 0), -1);
        due("status()", x.status(), -1);
        due("status() once more", x.status(), -1);
        due("not refused", x.mirror(1, 0, 9), 0);
        due("status()", x.status(), 0);
        x.mirror(2, 0, 9);
        // Each ends a refused state, though some of them answer below 0 or with a 0.
        Call[] fine = {(y, k) -> y.crack(0, 1, 1), (y, k) -> y.clock(0, 1), (y, k) -> y.terms(2, 1),
            (y, k) -> row(y, 9), (y, k) -> law(y, "bars if mood=2"), (y, k) -> orders(y, "pass if 1=2"),
            (y, k) -> y.force(NONE), (y, k) -> y.hang(0), (y, k) -> y.pass(), (y, k) -> y.polish(0, 1),
            (y, k) -> y.down(0), (y, k) -> y.undo(), (y, k) -> y.hear(1, 1, 1), (y, k) -> y.years(0, 1),
            (y, k) -> y.image(0), (y, k) -> y.back(0)};
        for (int i = 0; i < fine.length; i++) {
            due("refused", x.force(9), -2);
            due("status()", x.status(), -2);
            fine[i].with(x, 0);
            due("status() behind the call " + i, x.status(), 0);
        }
    }

    private static void images() {
        says("IMAGES 0, 1");
        edges("image(..)", NightMirrors::new, (x, k) -> x.image(k), 0, 0, 1, 0, -1);
        edges("back(..), none kept", NightMirrors::new, (x, k) -> x.back(k), 0, -2, 1, -2, -1);
        for (int kept = 0; kept < 2; kept++) {
            int k = kept;
            NightMirrors x = new NightMirrors();
            x.image(k);
            edges("back(..), " + k + " is kept", () -> x, (y, i) -> y.back(i), 0, k == 0 ? 0 : -2, 1,
                k == 1 ? 0 : -2, -1);
        }
    }

    public static void main(String[] args) {
        calls();
        parts();
        mirrors();
        saw();
        bendAndSilver();
        of();
        at();
        asks();
        cracks();
        parted();
        terms();
        heard();
        refusedInOrder();
        tape();
        end();
        rows();
        laws();
        hours();
        counts();
        statuses();
        images();
        finish("sentences on numbers");
    }
}
