/** Terms III, its second part, and IV: what is only reckoned on paper, at its edges. */
public final class PaperBoundsTest extends Dues {
    private static final long ALL = 1000000000000L;

    private static NightMirrors clockOf(NightMirrors x, int... clock) {
        for (int part = 0; part < clock.length; part++) {
            x.clock(part, clock[part]);
        }
        return x;
    }

    private static void wholeIs(String when, NightMirrors x, int hour, int... row) {
        due(when + ": whole(" + hour + ", NONE)", x.whole(hour, NONE), row.length);
        for (int i = 0; i < row.length; i++) {
            due(when + ": whole(" + hour + ", " + i + ")", x.whole(hour, i), row[i]);
        }
        for (int i : new int[] {row.length, row.length + 1, 6, 7, -2, LEAST, MOST}) {
            due(when + ": whole(" + hour + ", " + i + ")", x.whole(hour, i), NONE);
        }
    }

    private static void noWhole(String when, NightMirrors x, int hour) {
        for (int i = NONE; i < 7; i++) {
            due(when + ": whole(" + hour + ", " + i + ")", x.whole(hour, i), NONE);
        }
    }

    private static void whole() {
        says("a WHOLE LINE by an HOUR: what it makes by that HOUR is just the CLOCK");
        for (int hour = 1; hour <= 8; hour++) {
            wholeIs("an empty clock", glasses(6), hour);
            noWhole("a full clock", clockOf(glasses(6), 3, 3, 3, 3, 3, 3, 3, 3), hour);
            noWhole("no mirrors", clockOf(glasses(0), 1), hour);
        }
        noWhole("no such hour", glasses(1), 0);
        noWhole("no such hour", glasses(1), 9);
        noWhole("no such hour", glasses(1), LEAST);
        noWhole("no such hour", glasses(1), MOST);
        wholeIs("just three", clockOf(glasses(1), 3), 3, 0);
        noWhole("one less", clockOf(glasses(1), 2), 3);
        noWhole("one more", clockOf(glasses(1), 3, 1), 3);
        noWhole("another one", clockOf(glasses(1), 2, 1), 3);
        // By hour 8 one mirror makes eight parts: of eight parts one each.
        NightMirrors eight = under("makes hour-1");
        eight.mirror(1, 0, 1);
        wholeIs("eight parts", clockOf(eight, 1, 1, 1, 1, 1, 1, 1, 1), 8, 0);
        says("of the fewest MIRRORS, the first as a row");
        wholeIs("what works by no hour is not needed", clockOf(glasses(6), 0, 0, 0, 1), 1, 3);
        wholeIs("an order", clockOf(glasses(2), 1, 2), 2, 1, 0);
        NightMirrors alike = new NightMirrors();
        for (int i = 0; i < 6; i++) {
            alike.mirror(i % 2 + 1, 0, 1);
        }
        wholeIs("the first of three", clockOf(alike, 1, 2), 2, 1, 0);
        wholeIs("the first of three", clockOf(alike, 2, 1), 2, 0, 1);
        wholeIs("two of three", clockOf(alike, 3, 0), 2, 0, 2);
        // The place and the hour alone tell what is made, three times each of seven parts.
        String law = "makes [place*6-place*[place-1]/2+hour-place-1]/3";
        NightMirrors six = addGlasses(under(law), 6);
        clockOf(six, 3, 3, 3, 3, 3, 3, 3);
        wholeIs("all six", six, 6, 0, 1, 2, 3, 4, 5);
        noWhole("an hour less", six, 5);
        noWhole("an hour more", six, 7);
        clockOf(six, 2);
        noWhole("one less", six, 6);
        says("LINES of unlike MIRRORS with SILVER, BARRED from no PLACE of theirs");
        NightMirrors five = addGlasses(under(law), 5);
        noWhole("five alone", clockOf(five, 3, 3, 3, 3, 3, 3, 3), 6);
        NightMirrors barred = addGlasses(under(law + ";bars if mirror=0 and place<5"), 6);
        wholeIs("one that may hang last alone", clockOf(barred, 3, 3, 3, 3, 3, 3, 3), 6, 1, 2, 3, 4, 5, 0);
        NightMirrors none = addGlasses(under(law + ";bars if place=5"), 6);
        noWhole("none may hang last", clockOf(none, 3, 3, 3, 3, 3, 3, 3), 6);
        NightMirrors worn = new NightMirrors();
        worn.mirror(1, 0, 1);
        worn.mirror(1, 0, 2);
        worn.hang(0);
        worn.hang(1);
        worn.clock(0, 3);
        wholeIs("silver 1 and 2", worn, 3, 0);
        worn.pass();
        wholeIs("silver 0 and 1", worn, 3, 1);
        worn.pass();
        noWhole("silver 0 and 0", worn, 3);
    }

    private static void asNow() {
        says("(On paper, \"makes\" with SILVER and NIGHT as now)");
        NightMirrors x = under("makes 5;makes 6 if silver=30 and night=0;makes 4 if mirror=1;wears 0 if night=0");
        x.mirror(1, 0, 30);
        x.mirror(1, 0, 30);
        x.clock(6, 3);
        int[] parts = {6, 5, 5};
        for (int now = 0; now < 3; now++) {
            int part = parts[now];
            wholeOrNot("now " + now, x, part == 6);
            due("near(3), now " + now, x.near(3), part == 6 ? 0 : 3);
            x.hear(8, part, 1);
            due("lines(1, NONE, 0), now " + now, x.lines(1, NONE, 0), 1);
            due("lines(1, 0, 0), now " + now, x.lines(1, 0, 0), 0);
            x.forget();
            x.hang(0);
            x.pass();
            x.down(0);
        }
        NightMirrors y = under("makes silver-25;makes 0 if night>1");
        y.mirror(1, 0, 30);
        y.mirror(1, 0, 28);
        due("twins(NONE)", y.twins(NONE), 0);
        due("listen(1, 1)", y.listen(1, 1), 1);
        y.hang(0);
        y.pass();
        due("twins(NONE)", y.twins(NONE), 0);
        due("listen(1, 1)", y.listen(1, 1), 1);
        y.pass();
        due("twins(NONE)", y.twins(NONE), 1);
        due("listen(1, 1)", y.listen(1, 1), 2);
        y.terms(0, 1);
        due("twins(NONE), silver 28 both", y.twins(NONE), 1);
    }

    private static void wholeOrNot(String when, NightMirrors x, boolean is) {
        if (is) {
            wholeIs(when, x, 3, 0);
        } else {
            noWhole(when, x, 3);
        }
    }

    private static void near() {
        says("NEAR by an HOUR: the least .. of all PARTS together (any LINE, none too)");
        int[] full = {23, 21, 18, 16, 15, 15, 17, 21};
        for (int hour = 1; hour <= 8; hour++) {
            due("an empty clock by " + hour, glasses(6).near(hour), 0);
            due("no mirrors by " + hour, clockOf(glasses(0), 3, 3, 3, 3, 3, 3, 3, 3).near(hour), 24);
            due("six by " + hour, clockOf(glasses(6), 3, 3, 3, 3, 3, 3, 3, 3).near(hour), full[hour - 1]);
            due("one by " + hour, clockOf(glasses(1), 2).near(hour), hour < 4 ? Math.abs(2 - hour) : 2);
        }
        NightMirrors x = clockOf(glasses(1), 1);
        edges("near(..)", () -> x, (y, hour) -> y.near(hour), 1, 0, 8, 1, NONE);
        NightMirrors barred = clockOf(addGlasses(under("bars if place=0"), 6), 1);
        due("all barred", barred.near(1), 1);
        NightMirrors second = clockOf(addGlasses(under("bars if place=1"), 2), 2, 1);
        due("a second barred", second.near(2), 1);
        second.force(NONE);
        due("a second", second.near(2), 0);
        due("a mirror hangs but once", clockOf(glasses(2), 3).near(2), 1);
        due("a mirror hangs but once", clockOf(glasses(6), 3, 0, 0, 0, 0, 0, 2).near(2), 3);
        NightMirrors worn = glasses(0);
        worn.mirror(1, 0, 1);
        worn.hang(0);
        worn.clock(0, 1);
        due("silver 1", worn.near(1), 0);
        worn.pass();
        due("silver 0", worn.near(1), 1);
    }

    private static void lines() {
        says("LINES of n MIRRORS 0 .. 6: how many (i NONE), of the i-th the MIRROR at a PLACE. NONE.");
        int[] many = {1, 6, 30, 120, 360, 720, 720};
        for (int n = 0; n <= 6; n++) {
            int last = many[n] - 1;
            due("lines(" + n + ", NONE, 0)", glasses(6).lines(n, NONE, 0), many[n]);
            due("lines(" + n + ") of n mirrors", glasses(n).lines(n, NONE, 0), n < 2 ? 1 : many[6] / many[6 - n]);
            due("lines(" + n + ") of n less one", n == 0 ? 0 : glasses(n - 1).lines(n, NONE, 0), 0);
            for (int place = 0; place < n; place++) {
                due("the first of " + n, glasses(6).lines(n, 0, place), place);
                due("the last of " + n, glasses(6).lines(n, last, place), 5 - place);
                due("behind the last of " + n, glasses(6).lines(n, last + 1, place), NONE);
                due("far behind it", glasses(6).lines(n, MOST, place), NONE);
                due("ahead of the first", glasses(6).lines(n, -2, place), NONE);
                due("far ahead of it", glasses(6).lines(n, LEAST, place), NONE);
            }
            for (int place : new int[] {-1, n, 6, LEAST, MOST}) {
                due("place " + place + " of " + n, glasses(6).lines(n, 0, place), NONE);
            }
        }
        for (int n : new int[] {-1, 7, LEAST, MOST}) {
            due("lines(" + n + ", NONE, 0)", glasses(6).lines(n, NONE, 0), NONE);
            due("lines(" + n + ", 0, 0)", glasses(6).lines(n, 0, 0), NONE);
        }
        says("as rows of numbers go");
        NightMirrors x = glasses(6);
        int i = 0;
        for (int one = 0; one < 6; one++) {
            for (int other = 0; other < 6; other++) {
                if (one != other) {
                    due("the first of " + i, x.lines(2, i, 0), one);
                    due("the second of " + i, x.lines(2, i, 1), other);
                    i++;
                }
            }
        }
        says("LINES .. of unlike MIRRORS with SILVER, BARRED from no PLACE of theirs");
        NightMirrors worn = glasses(5);
        worn.mirror(6, 0, 1);
        worn.hang(5);
        due("six with silver", worn.lines(6, NONE, 0), 720);
        worn.pass();
        int[] less = {1, 5, 20, 60, 120, 120, 0};
        for (int n = 0; n <= 6; n++) {
            due("lines(" + n + ") of five with silver", worn.lines(n, NONE, 0), less[n]);
        }
        for (int place = 0; place < 6; place++) {
            NightMirrors b = addGlasses(under("bars if mirror=3 and place=" + place), 6);
            due("barred from " + place, b.lines(6, NONE, 0), 600);
            NightMirrors all = addGlasses(under("bars if place=" + place), 6);
            due("all barred from " + place, all.lines(6, NONE, 0), 0);
            due("all barred from " + place, all.lines(place, NONE, 0), many[place]);
        }
    }

    private static void heard() {
        says("by which all HEARD is so (at HOURS as told)");
        for (int made = 0; made < 2; made++) {
            NightMirrors none = glasses(1);
            none.hear(1, 0, made);
            due("a line of none, heard " + made, none.lines(0, NONE, 0), 1 - made);
            due("a line of one, heard " + made, none.lines(1, NONE, 0), made);
        }
        for (int place = 0; place < 6; place++) {
            for (int hour = 1; hour <= 8; hour++) {
                // Of 720 lines one is at a place of the first h by 120 times h.
                NightMirrors x = glasses(6);
                x.hear(hour, place, 1);
                due("heard at " + hour, x.lines(6, NONE, 0), 120 * Math.min(6, hour));
                x.forget();
                x.hear(hour, place, 0);
                due("not heard at " + hour, x.lines(6, NONE, 0), 720 - 120 * Math.min(6, hour));
            }
        }
        NightMirrors x = glasses(6);
        for (int hour = 1; hour <= 6; hour++) {
            due("hear", x.hear(hour, hour - 1, 1), hour);
        }
        x.hear(1, 1, 0);
        x.hear(8, 7, 0);
        due("all eight are so", x.lines(6, NONE, 0), 1);
        for (int place = 0; place < 6; place++) {
            due("the one at " + place, x.lines(6, 0, place), place);
            due("a second", x.lines(6, 1, place), NONE);
        }
        x.forget();
        for (int i = 0; i < 7; i++) {
            x.hear(1, 7, 0);
        }
        x.hear(8, 7, 1);
        due("the eighth is not so", x.lines(6, NONE, 0), 0);
        x.forget();
        x.hear(4, 2, 1);
        x.hear(4, 2, 0);
        due("so and not so", x.lines(6, NONE, 0), 0);
        due("the term HOURS is another thing", hearBeyond(), 120);
    }

    private static int hearBeyond() {
        NightMirrors x = glasses(6);
        x.terms(3, 1);
        x.hear(8, 0, 0);
        return x.lines(5, NONE, 0);
    }

    private static void listen() {
        says("the HOUR 1 .. 8 at which of these the most that make alike are as few as can be; the first");
        int[] hours = {1, 1, 2, 3, 3, 3, 3};
        int[] left = {1, 1, 2, 6, 18, 36, 36};
        for (int n = 0; n <= 6; n++) {
            due("listen(" + n + ", 0)", glasses(6).listen(n, 0), hours[n]);
            due("listen(" + n + ", 1)", glasses(6).listen(n, 1), left[n]);
            int k = n;
            edges("listen(" + n + ", ..)", () -> glasses(6), (x, w) -> x.listen(k, w), 0, hours[n], 1, left[n], NONE);
        }
        edges("listen(.., 0)", () -> glasses(6), (x, n) -> x.listen(n, 0), 0, 1, 6, 3, NONE);
        edges("listen(.., 1)", () -> glasses(6), (x, n) -> x.listen(n, 1), 0, 1, 6, 36, NONE);
        for (int hour = 1; hour <= 8; hour++) {
            NightMirrors x = addGlasses(under("makes 7;makes mirror if hour=" + hour), 6);
            due("the one hour", x.listen(1, 0), hour);
            due("left", x.listen(1, 1), 1);
            NightMirrors y = addGlasses(under("makes 7;makes mirror if hour>" + (hour - 1)), 6);
            due("the first hour", y.listen(1, 0), hour);
        }
        says("(the same set of PARTS)");
        for (int part = 0; part < 8; part++) {
            sameSets(part, (part + 1) % 8);
            sameSets(part, (part + 7) % 8);
        }
        says("NONE (no LINES)");
        for (int what = 0; what < 2; what++) {
            due("too few mirrors", glasses(5).listen(6, what), NONE);
            due("just enough", glasses(6).listen(6, what), what == 0 ? 3 : 36);
            NightMirrors x = glasses(6);
            x.hear(1, 7, 1);
            for (int n = 0; n <= 6; n++) {
                due("what none makes", x.listen(n, what), NONE);
            }
            NightMirrors one = glasses(6);
            one.hear(8, 3, 1);
            due("one is left", one.listen(1, what), 1);
        }
    }

    /** Two make one part, the second one of three another: at hour 2 there is the one alone, or both of them. */
    private static void sameSets(int one, int other) {
        NightMirrors x = under("makes 7 if hour=1");
        x.mirror(one + 1, 0, 1);
        x.mirror(other + 1, 0, 1);
        x.mirror(one + 1, 0, 1);
        for (int n = 2; n <= 3; n++) {
            due("listen(" + n + ", 0) of " + one + ", " + other, x.listen(n, 0), 2);
            due("listen(" + n + ", 1) of " + one + ", " + other, x.listen(n, 1), 4);
        }
        NightMirrors y = under("makes 7 if hour>1");
        y.mirror(one + 1, 0, 1);
        y.mirror(other + 1, 0, 1);
        y.mirror(one + 1, 0, 1);
        due("listen(3, 0), one of them works", y.listen(3, 0), 1);
        due("listen(3, 1), one of them works", y.listen(3, 1), 4);
    }

    private static void facing() {
        says("To FACE: how many STEPS till a PART comes again, and how many STEPS it is from one time to the next");
        NightMirrors x = new NightMirrors();
        for (int bend = 0; bend < 6; bend++) {
            x.mirror(1, bend, 1);
        }
        int[] round = {1, 8, 4, 8, 2, 8, 4, 8, 1, 8, 4};
        for (int one = 0; one < 6; one++) {
            for (int other = 0; other < 6; other++) {
                for (int part = 0; part < 8; part += 7) {
                    due("face(" + one + ", " + other + ", " + part + ", 0)", x.face(one, other, part, 0), 0);
                    due("face(" + one + ", " + other + ", " + part + ", 1)", x.face(one, other, part, 1),
                        round[one + other]);
                }
            }
        }
        NightMirrors down = addGlasses(under("makes part-1;makes part if mirror=1"), 2);
        for (int part = 0; part < 8; part++) {
            due("down to 0 from " + part, down.face(0, 1, part, 0), part);
            due("at 0", down.face(0, 1, part, 1), 1);
            due("two at a time from " + part, down.face(0, 0, part, 0), (part + 1) / 2);
            due("the other first", down.face(1, 0, part, 0), part);
        }
        // From 7 down to 3, then round and round from 3 to 0.
        NightMirrors tail = addGlasses(under("makes part-1;makes 3 if part=0;makes part if mirror=1"), 2);
        for (int part = 0; part < 8; part++) {
            due("a tail from " + part, tail.face(0, 1, part, 0), Math.max(0, part - 3));
            due("a round of four", tail.face(0, 1, part, 1), 4);
        }
        // Between the two a part may stand that was there at the beginning of a step: that does not count.
        NightMirrors between = addGlasses(under("makes 0;makes part+1 if mirror=1"), 2);
        due("the beginning of a step alone", between.face(0, 1, 0, 0) * 10 + between.face(0, 1, 0, 1), 11);
        edges("face(0, 0, 0, ..)", () -> tail, (y, what) -> y.face(0, 1, 7, what), 0, 4, 1, 4, NONE);
        says("(PLACE 0, HOUR 1), SILVER and NIGHT as now");
        NightMirrors now = addGlasses(under("makes part-1 if place=0 and hour=1 and silver=29 and night=1"), 1);
        due("ahead of the night", now.face(0, 0, 7, 0), 0);
        now.hang(0);
        now.pass();
        due("behind the night", now.face(0, 0, 7, 0), 4);
    }

    private static void unions() {
        says("UNION of a MIRROR: all to which CRACKS lead, itself, too");
        for (int n = 1; n <= 6; n++) {
            NightMirrors x = glasses(n);
            due("without cracks", x.union(n - 1), 1 << n - 1);
            for (int i = n - 1; i > 0; i--) {
                x.crack(i, i - 1, 1);
            }
            for (int i = 0; i < n; i++) {
                due("a chain of " + n, x.union(i), (1 << n) - 1);
            }
            if (n > 1) {
                x.crack(0, 1, 0);
                due("without the first", x.union(0), 1);
                due("without the first", x.union(n - 1), (1 << n) - 2);
            }
        }
        // The order of the numbers does not matter: 0-5-1-4-2-3.
        NightMirrors x = glasses(6);
        int[] way = {0, 5, 1, 4, 2, 3};
        for (int i = 0; i < 5; i++) {
            x.crack(way[i], way[i + 1], 1);
            int bits = 0;
            for (int k = 0; k <= i + 1; k++) {
                bits |= 1 << way[k];
            }
            due("a way of " + (i + 2), x.union(0), bits);
            due("a way of " + (i + 2), x.union(way[i + 1]), bits);
        }
        x.crack(3, 0, 1);
        x.crack(1, 4, 0);
        due("a ring with a gap", x.union(1), 63);
        x.crack(2, 3, 0);
        due("two gaps", x.union(1), 0b101011);
        due("two gaps", x.union(2), 0b010100);
    }

    private static void ends() {
        says("ENDS in n NIGHTS 0 .. 60: MIRRORS without SILVER, as bits. NONE.");
        edges("ends(..)", () -> hangAll(glasses(6)), (x, n) -> x.ends(n), 0, 0, 60, 63, NONE);
        edges("ends(..) of none", () -> glasses(6), (x, n) -> x.ends(n), 0, 0, 60, 0, NONE);
        for (int silver : new int[] {1, 2, 29, 30}) {
            NightMirrors x = new NightMirrors();
            x.mirror(1, 0, silver);
            x.mirror(1, 0, silver);
            x.hang(1);
            due("one night less", x.ends(silver - 1), 0);
            due("silver " + silver, x.ends(silver), 2);
            due("nothing is done", x.of(1, 2) + x.count(13), silver);
        }
        NightMirrors never = addGlasses(under("wears 0"), 6);
        hangAll(never);
        due("it never wears", never.ends(60), 0);
        NightMirrors worn = new NightMirrors();
        worn.mirror(1, 0, 1);
        worn.hang(0);
        worn.pass();
        due("behind no night", worn.ends(0), 1);
        says("NIGHT going on, beyond 999, too");
        for (int at : new int[] {999, 1000, 1057, 1058}) {
            NightMirrors x = under("wears 0;wears 9 if night=999+" + (at - 999));
            x.mirror(1, 0, 9);
            x.hang(0);
            x.terms(0, 999);
            due("ahead of night " + at, x.ends(at - 999), 0);
            due("behind night " + at, x.ends(at - 998), 1);
            due("count(13)", x.count(13), 999);
        }
        says("each that hangs WEARS as it is then; PLACES as they are then");
        NightMirrors moved = under("wears 0;wears 1 if place=0");
        for (int i = 0; i < 6; i++) {
            moved.mirror(1, 0, 1);
        }
        hangAll(moved);
        for (int n = 0; n <= 6; n++) {
            due("one a night, " + n, moved.ends(n), (1 << n) - 1);
        }
        NightMirrors half = addGlasses(under("wears silver/2;wears 1 if silver=1"), 1);
        half.hang(0);
        // 30, 21 (by 9 at most), 12, 6, 3, 2, 1, 0.
        due("half of it each night", half.ends(6), 0);
        due("half of it each night", half.ends(7), 1);
    }

    private static void till() {
        says("how many NIGHTS pass till STOCK has the CLOCK or more: 0 .. 30. NONE (not in 30)");
        due("an empty clock", new NightMirrors().till(), 0);
        due("no line", clockOf(glasses(1), 1).till(), NONE);
        for (int at : new int[] {0, 1, 28, 29, 30}) {
            for (int from : new int[] {0, 999}) {
                NightMirrors x = under("wears 0;makes 7;makes 0 if night=" + from + "+" + at);
                x.mirror(1, 0, 1);
                x.hang(0);
                x.terms(0, from);
                x.clock(0, 3);
                due("made in night " + at + " from " + from, x.till(), at < 30 ? at + 1 : NONE);
                due("count(13)", x.count(13), from);
            }
        }
        NightMirrors x = hangAll(glasses(1));
        x.terms(3, 1);
        for (int wanted = 0; wanted <= 3; wanted++) {
            x.clock(0, wanted);
            due("one a night, " + wanted, x.till(), wanted);
        }
        x.pass();
        x.pass();
        due("three, two are there", x.till(), 1);
        x.pass();
        due("three are there", x.till(), 0);
        x.pass();
        due("more are there", x.till(), 0);
        x.clock(1, 1);
        due("another one that is never made", x.till(), NONE);
        // Three nights' silver makes three, one less does not.
        for (int silver = 2; silver <= 3; silver++) {
            NightMirrors worn = new NightMirrors();
            worn.mirror(1, 0, silver);
            worn.hang(0);
            worn.terms(3, 1);
            worn.clock(0, 3);
            due("silver " + silver, worn.till(), silver == 3 ? 3 : NONE);
        }
        NightMirrors then = under("makes 7;makes 0 if silver=1");
        then.mirror(1, 0, 30);
        then.hang(0);
        then.clock(0, 3);
        due("SILVER as it is then", then.till(), 30);
        NightMirrors moved = new NightMirrors();
        for (int i = 0; i < 6; i++) {
            moved.mirror(i + 1, 0, 1 + i);
        }
        hangAll(moved);
        moved.terms(3, 1);
        moved.clock(5, 1);
        due("at place 0 only behind five nights", moved.till(), 6);
    }

    private static void twins() {
        says("TWINS: how many (i NONE), the i-th as ten times the lower and the higher one, rising. NONE.");
        NightMirrors x = new NightMirrors();
        due("no mirrors", x.twins(NONE), 0);
        due("no mirrors", x.twins(0), NONE);
        int[] saw = {1, 11, 111, 1111, 11111, 1};
        for (int i = 0; i < 6; i++) {
            x.mirror(saw[i], 0, 1);
            due("alike", x.twins(NONE), i * (i + 1) / 2);
        }
        int n = 0;
        for (int lower = 0; lower < 6; lower++) {
            for (int higher = lower + 1; higher < 6; higher++) {
                due("twins(" + n + ")", x.twins(n), 10 * lower + higher);
                n++;
            }
        }
        for (int i : new int[] {15, -2, LEAST, MOST}) {
            due("twins(" + i + ")", x.twins(i), NONE);
        }
        due("none alike", glasses(6).twins(NONE), 0);
        due("none alike", glasses(6).twins(0), NONE);
        says("at each of HOURS 1 .. 8, each hung alone at PLACE 0 (BARRED, SILVER 0 aside)");
        for (int hour = 1; hour <= 8; hour++) {
            NightMirrors y = addGlasses(under("makes 0;makes mirror if hour=" + hour), 2);
            due("but for hour " + hour, y.twins(NONE), 0);
        }
        NightMirrors ninth = addGlasses(under("makes 0;makes mirror if hour=9 or hour=0 or place>0"), 2);
        due("these alone", ninth.twins(0), 1);
        NightMirrors all = under("bars;makes 0");
        all.mirror(1, 0, 1);
        all.mirror(2, 0, 1);
        due("barred", all.twins(0), 1);
        NightMirrors worn = new NightMirrors();
        worn.mirror(1, 0, 1);
        worn.mirror(1, 0, 9);
        worn.hang(0);
        worn.pass();
        due("silver 0", worn.twins(0), 1);
        NightMirrors five = new NightMirrors();
        five.mirror(21111, 0, 1);
        five.mirror(11111, 0, 1);
        five.mirror(12111, 1, 1);
        five.mirror(11111, 1, 1);
        due("unlike at hour 5, at hour 4", five.twins(NONE), 0);
    }

    private static void lasts() {
        says("LASTS n NIGHTS 0 .. 60. NONE.");
        edges("lasts(0, ..)", () -> glasses(1), (x, n) -> x.lasts(0, n), 0, ALL, 60, 999087148847L, NONE);
        int[][] of = {{1, 1, 3}, {1, 12, 3}, {1, 13, 3}, {2, 2, 3}, {2, 13, 3}, {2, 60, 3}, {30, 60, 5}, {30, 60, 7},
            {2, 13, 9}, {2, 14, 9}, {5, 16, 7}, {30, 30, 9}, {30, 60, 9}, {1, 60, 1}};
        long[] want = {700000000000L, 13841287201L, 9688901040L, 910000000000L, 63669921123L, 13565L, 448710913080L,
            364025306L, 10, 1, 265831293L, 957608841463L, 0, 1797010296L};
        for (int i = 0; i < of.length; i++) {
            due("silver " + of[i][0] + ", " + of[i][1] + " nights, flakes " + of[i][2],
                chance(of[i][0], of[i][1], of[i][2]), want[i]);
        }
        says("in each of which it loses one in FLAKES of ten");
        for (int silver = 1; silver <= 30; silver++) {
            due("never", chance(silver, 60, 0), ALL);
            due("always, one night less", chance(silver, silver - 1, 10), ALL);
            due("always", chance(silver, silver, 10), 0);
            due("always", chance(silver, 60, 10), 0);
            due("fewer nights than silver", chance(silver, silver - 1, 1) > ALL - 1000 ? 1 : 0, 1);
        }
        says("at 0 it stays");
        NightMirrors x = new NightMirrors();
        x.mirror(1, 0, 1);
        x.hang(0);
        x.pass();
        for (int n = 0; n <= 60; n += 30) {
            due("silver 0", x.lasts(0, n), 0);
        }
    }

    private static long chance(int silver, int nights, int flakes) {
        NightMirrors x = new NightMirrors();
        x.mirror(1, 0, silver);
        x.terms(1, flakes);
        return x.lasts(0, nights);
    }

    private static void wages() {
        says("WAGES: what all PARTS made by the LINE in HOURS are PAID together by a LAW (NONE: none)");
        NightMirrors x = under("pays 1000");
        hangAll(addGlasses(x, 6));
        law(x, "pays 0-1");
        law(x, "bars;makes 7;pays part");
        int[] made = {1, 3, 6, 10, 15, 21, 27, 33};
        for (int hours = 1; hours <= 8; hours++) {
            x.terms(3, hours);
            due("at most", x.wages(0), 99 * made[hours - 1]);
            due("at least", x.wages(1), 0);
            due("makes by that, too", x.wages(2), 7 * made[hours - 1]);
            due("none", x.wages(NONE), made[hours - 1]);
        }
        for (int k : new int[] {-2, 3, LEAST, MOST}) {
            due("wages(" + k + ")", x.wages(k), NONE);
        }
        due("the law in force stays", x.count(12), 0);
        due("an empty line", glasses(6).wages(NONE), 0);
    }

    private static int drawAfter(int s) {
        return (int) ((s * 1103L + 12345L) % 1000003L);
    }

    /** One mirror that never wears, alone: how often it works in n times. */
    private static int worksOf(int seed, int n) {
        int s = seed;
        int works = 0;
        boolean hangs = false;
        for (int i = 0; i < n; i++) {
            s = drawAfter(drawAfter(s));
            hangs = s % 3 == 0 || s % 3 == 2 && hangs;
            works += hangs ? 1 : 0;
        }
        return works;
    }

    private static NightMirrors alone(int night) {
        NightMirrors x = under("wears 0");
        x.mirror(1, 0, 1);
        x.terms(0, night);
        return x;
    }

    private static void years() {
        says("YEARS with a SEED, n 1 .. 60; the SEED (0 .. 1,000,000)");
        // Of seed 0 the second draw is 628841 (2 of 3), of 1,000,000 it is 979026 (0): it hangs already.
        edges("years(.., 1)", () -> hangAll(alone(0)), (x, seed) -> x.years(seed, 1), 0, 6, 1000000, 6, -1);
        edges("years(29, ..)", () -> alone(0), (x, n) -> x.years(29, n), 1, 0, 60, 6 * worksOf(29, 60), -1);
        // 870345, 413408 and 327279 are drawn on to 0, 1 and 1,000,002.
        for (int seed : new int[] {0, 1, 29, 327279, 413408, 870345, 999999, 1000000}) {
            for (int n : new int[] {1, 2, 3, 30, 59, 60}) {
                NightMirrors x = alone(0);
                int works = worksOf(seed, n);
                due("years(" + seed + ", " + n + ")", x.years(seed, n), 6 * works);
                due("drawn(0, 0), 99 at most", x.drawn(0, 0), Math.min(99, 6 * works));
                due("drawn(0, 1)", x.drawn(0, 1), 1);
                due("nothing is done", x.count(1) + x.count(2) + x.count(13), 0);
            }
        }
        says("-3 there are no MIRRORS");
        due("none", new NightMirrors().years(0, 1), -3);
        due("one", glasses(1).years(0, 1), 0);
        says("at NIGHT 999 it ends");
        for (int night : new int[] {938, 939, 940, 997, 998, 999}) {
            NightMirrors x = alone(night);
            int n = Math.min(60, 999 - night);
            due("from night " + night, x.years(29, 60), 6 * worksOf(29, n));
            due("drawn(0, 0)", x.drawn(0, 0), Math.min(99, 6 * worksOf(29, n)));
            due("count(13)", x.count(13), night);
            NightMirrors hung = hangAll(alone(night));
            due("one that hangs, from night " + night, hung.years(0, 1), night < 999 ? 6 : 0);
            due("drawn(0, 2)", hung.drawn(0, 2), 0);
        }
    }

    private static void yearsIfTheyCan() {
        says("at 0 that one is HUNG, at 1 taken DOWN, each if it can be, at 2 nothing; then the NIGHT passes");
        NightMirrors barred = under("bars;wears 0");
        barred.mirror(1, 0, 1);
        due("barred", barred.years(29, 60), 0);
        due("drawn(0, 2)", barred.drawn(0, 2), NONE);
        NightMirrors once = new NightMirrors();
        once.mirror(1, 0, 1);
        due("silver for one night", once.years(29, 60), 6);
        due("drawn(0, 1)", once.drawn(0, 1), 0);
        due("drawn(0, 2)", once.drawn(0, 2), NONE);
        // Six mirrors: seed 5 draws 17860 (mirror 4), 711868 (1 of 3: down); seed 29 draws 44332 (4), 910397 (2).
        NightMirrors six = hangAll(glasses(6));
        due("the fifth taken down", six.years(5, 1), 6 + 5 + 4 + 3 + 2);
        int[] places = {0, 1, 2, 3, NONE, 4};
        for (int i = 0; i < 6; i++) {
            due("drawn(" + i + ", 2)", six.drawn(i, 2), places[i]);
            due("drawn(" + i + ", 1)", six.drawn(i, 1), i == 4 ? 30 : 29);
        }
        // The same draw 17860 is of one to six mirrors the mirror 0, 0, 1, 0, 0, 4.
        int[] taken = {0, 0, 1, 0, 0, 4};
        for (int n = 1; n <= 6; n++) {
            NightMirrors x = hangAll(glasses(n));
            x.years(5, 1);
            for (int i = 0; i < n; i++) {
                int t = taken[n - 1];
                due("drawn(" + i + ", 2) of " + n, x.drawn(i, 2), i == t ? NONE : i < t ? i : i - 1);
            }
        }
        // Drawn on to 0, then to 12345 (0 of 3); to 1,000,002 (0 of six), then to 11242 (1 of 3).
        NightMirrors none = glasses(6);
        due("the first is hung", none.years(870345, 1), 6);
        due("drawn(0, 2)", none.drawn(0, 2), 0);
        due("the first can't be taken down", none.years(327279, 1), 0);
        due("the first is taken down", hangAll(glasses(6)).years(327279, 1), 20);
        due("the first can't be hung", hangAll(glasses(6)).years(870345, 1), 21);
        due("nothing", six.years(29, 1), 21);
        due("drawn(5, 2)", six.drawn(5, 2), 5);
        due("drawn(5, 0)", six.drawn(5, 0), 1);
        due("drawn(6, 0)", six.drawn(6, 0), 0);
    }

    private static void drawn() {
        says("Behind the latest YEARS STOCK of PART k (what 0), SILVER (1), the PLACE (2; NONE) of MIRROR k. NONE.");
        NightMirrors x = hangAll(glasses(6));
        for (int what = 0; what < 3; what++) {
            due("ahead of any", x.drawn(0, what), NONE);
        }
        x.years(29, 1);
        edges("drawn(.., 0)", () -> x, (y, k) -> y.drawn(k, 0), 0, 6, 7, 0, NONE);
        edges("drawn(.., 1)", () -> x, (y, k) -> y.drawn(k, 1), 0, 29, 5, 29, NONE);
        edges("drawn(.., 2)", () -> x, (y, k) -> y.drawn(k, 2), 0, 0, 5, 5, NONE);
        edges("drawn(5, ..)", () -> x, (y, what) -> y.drawn(5, what), 0, 1, 2, 5, NONE);
        due("years(-1, 1)", x.years(-1, 1), -1);
        due("years(1, 0)", x.years(1, 0), -1);
        due("behind refused ones", x.drawn(0, 0), 6);
        x.pass();
        x.down(5);
        due("nights are another thing", x.drawn(0, 0), 6);
        due("the line is another thing", x.drawn(5, 2), 5);
        x.image(0);
        x.years(5, 1);
        due("the latest", x.drawn(4, 2), NONE);
        x.back(0);
        due("behind back()", x.drawn(4, 2), NONE);
    }

    public static void main(String[] args) {
        whole();
        asNow();
        near();
        lines();
        heard();
        listen();
        facing();
        unions();
        ends();
        till();
        twins();
        lasts();
        wages();
        years();
        yearsIfTheyCan();
        drawn();
        finish("sentences on what is reckoned on paper");
    }
}
