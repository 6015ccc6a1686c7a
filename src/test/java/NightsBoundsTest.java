/** Terms III, its first part: the work of the line, hanging, polishing, nights, and what of it can be undone. */
public final class NightsBoundsTest extends Dues {
    private static NightMirrors one(int saw, int bend, int silver) {
        NightMirrors x = new NightMirrors();
        x.mirror(saw, bend, silver);
        return x;
    }

    /** A mirror that makes part 0 alone hangs at place 0; its silver never wears. */
    private static NightMirrors everlasting() {
        NightMirrors x = under("wears 0");
        x.mirror(1, 0, 1);
        x.hang(0);
        return x;
    }

    /** Mirror 0 with a silver, and a stock of part 0; it hangs nowhere, and nothing can be undone. */
    private static NightMirrors withStock(int silver, int stock) {
        NightMirrors x = under("wears 0");
        x.mirror(1, 0, silver);
        x.hang(0);
        for (int had = 0; had < stock; had += 8) {
            x.terms(3, Math.min(8, stock - had));
            x.pass();
        }
        x.down(0);
        x.terms(3, 6);
        due("stock", x.part(0, 0), stock);
        return x;
    }

    private static void rounds() {
        says("works at HOURS p and 1 on: at its first HOUR with the last PART it SAW, at the next one with the one "
            + "ahead of that; behind the first one the last one again");
        int saw = 0;
        for (int length = 1; length <= 5; length++) {
            saw = saw * 10 + length;
            NightMirrors x = one(saw, 0, 30);
            for (int place = 0; place < 6; place++) {
                for (int hour = 1; hour <= 8; hour++) {
                    int nth = hour - place - 1;
                    int want = nth < 0 ? NONE : length - 1 - nth % length;
                    due("saw " + saw + " at " + place + ", hour " + hour, x.asks(0, place, hour, 0), want);
                }
            }
        }
        NightMirrors x = new NightMirrors();
        for (int i = 0; i < 6; i++) {
            x.mirror(12, i, 30);
        }
        hangAll(x);
        // At place p a mirror of bend p makes by turns part p and 1, part p.
        for (int hour = 1; hour <= 8; hour++) {
            int bits = 0;
            for (int p = 0; p < 6 && p < hour; p++) {
                bits |= 1 << (p + ((hour - p) % 2 == 1 ? 1 : 0));
            }
            due("makes(" + hour + ")", x.makes(hour), bits);
        }
        NightMirrors back = glasses(6);
        for (int i = 5; i >= 0; i--) {
            back.hang(i);
        }
        int bits = 0;
        for (int hour = 1; hour <= 8; hour++) {
            bits |= hour <= 6 ? 1 << 6 - hour : 0;
            due("makes(" + hour + "), the last one first", back.makes(hour), bits);
        }
    }

    private static void hanging() {
        says("To HANG one that hangs nowhere, has SILVER, is not BARRED from the PLACE behind the last one: there");
        NightMirrors x = glasses(6);
        for (int i = 5; i >= 0; i--) {
            due("hang(" + i + ")", x.hang(i), 5 - i);
            due("hang(" + i + "), it hangs", x.hang(i), -3);
        }
        line("full", x, 5, 4, 3, 2, 1, 0);
        for (int i = 0; i < 6; i++) {
            due("hang(" + i + ") of a full line", x.hang(i), -3);
        }
        due("hang(6) of a full line", x.hang(6), -2);
        due("count(5)", x.count(5), 6);
        NightMirrors worn = one(1, 0, 1);
        due("silver 1", worn.hang(0), 0);
        worn.pass();
        due("silver", worn.of(0, 2), 0);
        due("silver 0", worn.hang(0), -3);
        worn.polish(0, 1);
        due("silver 1 once more", worn.hang(0), 0);
        for (int place = 0; place < 6; place++) {
            barredFrom(place);
        }
    }

    private static void barredFrom(int place) {
        NightMirrors x = under("bars if mirror=0 and place=" + place);
        addGlasses(x, 6);
        for (int i = 1; i <= place; i++) {
            due("hang(" + i + ")", x.hang(i), i - 1);
        }
        due("hang(0) at " + place, x.hang(0), -3);
        due("count(1)", x.count(1), place);
        if (place > 0) {
            due("down(1)", x.down(1), 0);
            due("hang(0) at one less", x.hang(0), place - 1);
        }
        if (place < 5) {
            movesUpTo(place);
        }
    }

    /** To move up is not to hang: what is barred from a place may come there. */
    private static void movesUpTo(int place) {
        for (int time = 0; time < 2; time++) {
            NightMirrors x = under("wears 0;wears 9 if mirror=1;bars if mirror=0 and place=" + place);
            for (int i = 0; i < 6; i++) {
                x.mirror(i + 1, 0, 9);
            }
            for (int i = 1; i <= place + 1; i++) {
                due("hang(" + i + ")", x.hang(i), i - 1);
            }
            due("hang(0) behind " + place, x.hang(0), place + 1);
            due("the first comes down", time == 0 ? x.down(1) : x.pass() < 0 ? NONE : 0, 0);
            due("of(0, 3)", x.of(0, 3), place);
            due("barred", x.asks(0, place, 8, 1), 1);
        }
    }

    private static void takingDown() {
        says("DOWN: all behind it move up by one");
        for (int n = 1; n <= 6; n++) {
            for (int k = 0; k < n; k++) {
                NightMirrors x = hangAll(glasses(n));
                due("down(" + k + ") of " + n, x.down(k), k);
                int[] left = new int[n - 1];
                for (int i = 0; i < n - 1; i++) {
                    left[i] = i < k ? i : i + 1;
                }
                line("down(" + k + ") of " + n, x, left);
                due("of(" + k + ", 3)", x.of(k, 3), NONE);
                due("down(" + k + ") once more", x.down(k), -3);
                due("hang(" + k + ") behind them", x.hang(k), n - 1);
            }
        }
        due("down(0) of an empty line", glasses(1).down(0), -3);
        due("down(0) without mirrors", glasses(0).down(0), -2);
    }

    private static void polishing() {
        says("To POLISH: SILVER is 1 .. 30 more (30 at most), one of STOCK of PART 0 less");
        edges("polish(0, ..)", () -> withStock(1, 1), (x, by) -> x.polish(0, by), 1, 2, 30, 30, -1);
        int[][] polished = {{1, 28, 29}, {1, 29, 30}, {1, 30, 30}, {29, 1, 30}, {29, 2, 30}, {30, 1, 30}, {30, 30, 30}};
        for (int[] p : polished) {
            NightMirrors x = withStock(p[0], 2);
            due("polish(0, " + p[1] + ") of " + p[0], x.polish(0, p[1]), p[2]);
            due("silver", x.of(0, 2), p[2]);
            due("stock", x.part(0, 0), 1);
            due("count(5)", x.count(5), 1);
        }
        NightMirrors worn = one(1, 0, 1);
        worn.hang(0);
        worn.pass();
        due("polish(0, 30) of 0", worn.polish(0, 30), 30);
        due("it hangs nowhere", worn.of(0, 3), NONE);
        says("-3 no STOCK");
        NightMirrors x = withStock(1, 1);
        due("the last of the stock", x.polish(0, 1), 2);
        due("none", x.polish(0, 1), -3);
        due("silver", x.of(0, 2), 2);
        due("stock", x.part(0, 0), 0);
        NightMirrors other = one(2, 0, 9);
        other.hang(0);
        other.pass();
        due("stock of another part", other.polish(0, 1), -3);
        stocks("of another part", other, 0, 6, 0, 0, 0, 0, 0, 0);
        NightMirrors full = withStock(1, 99);
        due("of a full stock", full.polish(0, 1), 2);
        due("stock", full.part(0, 0), 98);
    }

    private static void hours() {
        says("A NIGHT: all of the LINE work HOURS");
        for (int n = 0; n <= 6; n++) {
            for (int hours = 1; hours <= 8; hours++) {
                NightMirrors x = hangAll(glasses(n));
                x.terms(3, hours);
                int all = 0;
                for (int p = 0; p < n; p++) {
                    all += Math.max(0, hours - p);
                }
                due(n + " for " + hours + " hours", x.pass(), all);
                for (int p = 0; p < n; p++) {
                    due("of the one at " + p, x.part(p, 0), Math.max(0, hours - p));
                    due("silver of the one at " + p + ", worked or not", x.of(p, 2), 29);
                }
                due("count(2)", x.count(2), all);
                due("count(13)", x.count(13), 1);
            }
        }
    }

    private static void stock() {
        says("STOCK is more by what is made (99 at most); how many PARTS were made (what 99 cuts off, too)");
        int[][] more = {{91, 8, 99}, {92, 8, 99}, {98, 1, 99}, {98, 8, 99}, {99, 1, 99}, {99, 8, 99}, {90, 8, 98}};
        for (int[] m : more) {
            NightMirrors x = withStock(5, m[0]);
            x.hang(0);
            x.terms(3, m[1]);
            due("pass() with " + m[0], x.pass(), m[1]);
            due("stock", x.part(0, 0), m[2]);
            due("count(2)", x.count(2), m[2]);
            due("undo()", x.undo(), 3);
            due("stock ahead of it", x.part(0, 0), m[0]);
        }
        NightMirrors x = under("wears 0");
        for (int i = 0; i < 6; i++) {
            x.mirror(i + 3, 0, 1);
        }
        hangAll(x);
        x.terms(3, 8);
        for (int i = 0; i < 40; i++) {
            due("pass()", x.pass(), 33);
        }
        stocks("six full ones", x, 0, 0, 99, 99, 99, 99, 99, 99);
        due("count(2)", x.count(2), 594);
    }

    private static void wear() {
        says("then SILVER of all that hang WEARS (0 at least); those without SILVER come down, the others move up");
        for (int by = 0; by <= 9; by++) {
            for (int silver = 1; silver <= 11; silver++) {
                NightMirrors x = under("wears " + by);
                x.mirror(1, 0, silver);
                x.mirror(1, 0, silver);
                x.hang(0);
                x.pass();
                int left = Math.max(0, silver - by);
                due("silver " + silver + " less " + by, x.of(0, 2), left);
                due("its place", x.of(0, 3), left == 0 ? NONE : 0);
                due("one that does not hang", x.of(1, 2), silver);
                due("ends(0)", x.ends(0), left == 0 ? 1 : 0);
            }
        }
        for (int bits = 0; bits < 64; bits++) {
            comesDown(bits);
        }
        says("all asked as it was ahead");
        NightMirrors x = under("wears place;wears 9 if place=5 and silver=9");
        int[] silver = {9, 9, 9, 3, 9, 9};
        for (int one : silver) {
            x.mirror(1, 0, one);
        }
        hangAll(x);
        x.pass();
        int[] left = {9, 8, 7, 0, 5, 0};
        for (int i = 0; i < 6; i++) {
            due("silver of " + i, x.of(i, 2), left[i]);
        }
        line("behind the night", x, 0, 1, 2, 4);
        due("night is asked as it was", nightWear(), 4);
    }

    /** What silver 5 is behind the nights 0 and 1, if it wears by the night's number. */
    private static int nightWear() {
        NightMirrors x = under("wears night");
        x.mirror(1, 0, 5);
        x.hang(0);
        x.pass();
        due("the first night", x.of(0, 2), 5);
        x.pass();
        return x.of(0, 2);
    }

    /** Of six the ones whose bit is set have their last silver. */
    private static void comesDown(int bits) {
        NightMirrors x = new NightMirrors();
        for (int i = 0; i < 6; i++) {
            x.mirror(1, 0, (bits >> i & 1) == 1 ? 1 : 2);
        }
        hangAll(x);
        x.pass();
        int[] left = new int[6 - Integer.bitCount(bits)];
        int n = 0;
        for (int i = 0; i < 6; i++) {
            if ((bits >> i & 1) == 0) {
                left[n] = i;
                n++;
            } else {
                due("of(" + i + ", 3)", x.of(i, 3), NONE);
            }
        }
        line("without silver: " + bits, x, left);
        due("ends(0)", x.ends(0), bits);
        due("undo()", x.undo(), 3);
        line("undone", x, 0, 1, 2, 3, 4, 5);
        due("ends(0)", x.ends(0), 0);
        due("ends(1)", x.ends(1), bits);
    }

    private static void nights() {
        says("it is the next NIGHT (at 999 it can't be)");
        NightMirrors x = everlasting();
        x.terms(0, 997);
        due("pass()", x.pass(), 6);
        due("count(13)", x.count(13), 998);
        due("pass() to the last", x.pass(), 6);
        due("count(13)", x.count(13), 999);
        due("pass() of the last", x.pass(), -3);
        due("count(13)", x.count(13), 999);
        due("stock", x.part(0, 0), 12);
        due("count(5)", x.count(5), 2);
        due("undo()", x.undo(), 3);
        due("count(13)", x.count(13), 998);
        due("pass() to the last once more", x.pass(), 6);
        due("terms(0, 0)", x.terms(0, 0), 999);
        due("pass() of the first", x.pass(), 6);
        due("an empty line", new NightMirrors().pass(), 0);
    }

    private static void undoing() {
        says("(by ORDERS, too; 16 are kept) is undone: 0 .. 3");
        for (int n : new int[] {0, 1, 15, 16, 17, 18, 32, 33}) {
            NightMirrors x = everlasting();
            x.terms(3, 1);
            for (int i = 0; i < n; i++) {
                x.pass();
            }
            int kept = Math.min(16, n);
            due("count(5) behind " + n, x.count(5), kept);
            for (int i = 1; i <= kept; i++) {
                due("undo " + i + " of " + n, x.undo(), 3);
                due("stock", x.part(0, 0), n - i);
                due("count(13)", x.count(13), n - i);
                due("count(5)", x.count(5), kept - i);
            }
            due("undo() of none", x.undo(), -3);
            due("stock", x.part(0, 0), n - kept);
        }
        NightMirrors x = glasses(2);
        due("orders", orders(x, "hang 0;pass;polish 0 by 1;hang 1;down 0" + times(";pass times 2", 6)), 17);
        due("count(5)", x.count(5), 16);
        int[] kinds = {3, 3, 3, 3, 3, 3, 3, 3, 3, 3, 3, 3, 1, 0, 2, 3};
        for (int kind : kinds) {
            due("undo()", x.undo(), kind);
        }
        due("undo() of the seventeenth", x.undo(), -3);
        line("the first is left", x, 0);
        due("silver", x.of(0, 2), 30);
        NightMirrors y = glasses(1);
        for (int i = 0; i < 20; i++) {
            due("hang(0)", y.hang(0), 0);
            due("down(0)", y.down(0), 0);
        }
        for (int i = 0; i < 16; i++) {
            due("undo()", y.undo(), i % 2 == 0 ? 1 : 0);
            due("count(1)", y.count(1), i % 2 == 0 ? 1 : 0);
        }
        due("undo()", y.undo(), -3);
        for (int n = 0; n <= 17; n++) {
            stoppedBehind(n);
        }
    }

    /** Orders that stop leave all that could be undone, a full number of it, too. */
    private static void stoppedBehind(int n) {
        NightMirrors x = everlasting();
        x.terms(3, 1);
        for (int i = 0; i < n; i++) {
            x.pass();
        }
        due("orders that stop behind " + n, orders(x, "down 0;pass times 20;hang 0;pass;down 9"), -3);
        due("count(5)", x.count(5), Math.min(16, n));
        for (int i = 1; i <= Math.min(16, n); i++) {
            due("undo " + i + " of " + n, x.undo(), 3);
            due("stock", x.part(0, 0), n - i);
        }
        due("undo() of none", x.undo(), -3);
    }

    private static void notUndone() {
        says("nothing that was ahead of a mirror(), terms() that was not REFUSED can be undone");
        Call[] stay = {(x, k) -> x.mirror(9, 0, 1), (x, k) -> x.terms(0, 1000), (x, k) -> x.terms(4, 0),
            (x, k) -> x.crack(0, 1, 1), (x, k) -> x.clock(0, 1), (x, k) -> row(x, 0), (x, k) -> law(x, "bars"),
            (x, k) -> x.force(NONE), (x, k) -> x.hear(1, 0, 1), (x, k) -> x.years(0, 60), (x, k) -> x.image(0),
            (x, k) -> x.back(0), (x, k) -> x.back(2), (x, k) -> x.forget(), (x, k) -> x.undo() + x.pass(),
            (x, k) -> orders(x, "pass;down 0"), (x, k) -> orders(x, "?"), (x, k) -> x.hang(0) + x.undo()};
        for (int i = 0; i < stay.length; i++) {
            NightMirrors x = glasses(2);
            x.hang(1);
            x.pass();
            stay[i].with(x, 0);
            due("undo() behind the call " + i, x.undo(), 3);
            due("undo() behind the call " + i, x.undo(), 0);
            due("undo() of none", x.undo(), -3);
        }
        Call[] gone = {(x, k) -> x.mirror(1, 0, 1), (x, k) -> x.terms(0, 1), (x, k) -> x.terms(1, 3),
            (x, k) -> x.terms(2, 0), (x, k) -> x.terms(3, 6), (x, k) -> x.image(0) + x.back(0)};
        for (int i = 0; i < gone.length; i++) {
            NightMirrors x = glasses(2);
            x.hang(1);
            x.pass();
            gone[i].with(x, 0);
            due("count(5) behind the call " + i, x.count(5), 0);
            due("undo() behind the call " + i, x.undo(), -3);
            due("at(0)", x.at(0), 1);
            due("silver", x.of(1, 2), 29);
            x.pass();
            due("what comes behind it", x.undo(), 3);
            due("undo()", x.undo(), -3);
        }
        NightMirrors full = glasses(6);
        full.pass();
        full.mirror(1, 0, 1);
        due("undo() behind a mirror() without room", full.undo(), 3);
    }

    private static void images() {
        says("IMAGES 0, 1 keep all but .. what can be undone (nothing, behind back()); BACK .. (IMAGES stay)");
        NightMirrors x = glasses(2);
        x.image(0);
        x.hang(1);
        x.pass();
        x.image(1);
        x.hang(0);
        due("count(5)", x.count(5), 3);
        for (int time = 0; time < 2; time++) {
            due("back(1)", x.back(1), 0);
            line("the later one", x, 1);
            due("count(13)", x.count(13), 1);
            due("undo()", x.undo(), -3);
            due("back(0)", x.back(0), 0);
            line("the earlier one", x);
            due("count(13)", x.count(13), 0);
            due("undo()", x.undo(), -3);
            x.pass();
            due("undo() of what comes behind it", x.undo(), 3);
        }
        NightMirrors empty = new NightMirrors();
        empty.image(1);
        addGlasses(empty, 6);
        hangAll(empty);
        for (int i = 0; i < 6; i++) {
            law(empty, "bars");
        }
        due("back to an empty one", empty.back(1), 0);
        for (int what = 0; what <= 6; what++) {
            due("count(" + what + ")", empty.count(what), 0);
        }
        due("of(0, 0)", empty.of(0, 0), NONE);
        due("room for six", addGlasses(empty, 6).count(0), 6);
        due("room for six laws", law(empty, "bars"), 0);
    }

    public static void main(String[] args) {
        rounds();
        hanging();
        takingDown();
        polishing();
        hours();
        stock();
        wear();
        nights();
        undoing();
        notUndone();
        images();
        finish("sentences on nights");
    }
}
