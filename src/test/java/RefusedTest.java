import java.util.LinkedHashMap;
import java.util.Map;

/**
 * A refused call answers what it is refused by and changes nothing but what the document says; a call that only
 * asks changes nothing at all. Two objects with the same past are compared, of which one alone got the call.
 */
public final class RefusedTest extends Dues {
    /** Something that is done to an object. */
    interface Deed {
        void to(NightMirrors x);
    }

    /** All that an object answers in some way. */
    interface Look {
        void at(NightMirrors x, Map<String, Long> seen);
    }

    private static final int[] BY = {-1, -2, -3, -5, -6};
    private static final Deed NOTHING = x -> { };
    private static final Look[] LOOKS = {RefusedTest::held, RefusedTest::reckoned, RefusedTest::undone,
        RefusedTest::backToFirst, RefusedTest::backToSecond, RefusedTest::rowOfTape, RefusedTest::textOfTape};

    /** An object of which everything is something: five of six mirrors, laws, an image, a line, a tape. */
    private static NightMirrors rich(boolean withTape) {
        NightMirrors x = new NightMirrors();
        law(x, "wears 9 if mirror=4;bars if mirror=3 and place<4;pays part+night");
        law(x, "makes part+mood;pays 3;wears place");
        x.mirror(12, 1, 20);
        x.mirror(345, 2, 9);
        x.mirror(6, 3, 30);
        x.mirror(78, 4, 5);
        x.mirror(1, 0, 8);
        x.crack(0, 2, 1);
        x.crack(3, 4, 1);
        x.terms(0, 40);
        x.terms(1, 4);
        x.terms(2, 2);
        x.terms(3, 5);
        x.force(0);
        x.hear(1, 2, 0);
        x.hear(3, 4, 1);
        x.image(0);
        x.hang(4);
        x.hang(0);
        x.hang(1);
        x.pass();
        x.polish(1, 2);
        x.down(0);
        row(x, 1, 1, 2, 9, 7);
        x.years(77, 9);
        orders(x, "pass;down 9");
        law(x, "bars 1");
        if (withTape) {
            say(x, "bars if mood=1");
        }
        return x;
    }

    private static void held(NightMirrors x, Map<String, Long> seen) {
        for (int what = 0; what <= 16; what++) {
            seen.put("count(" + what + ")", (long) x.count(what));
        }
        for (int mirror = 0; mirror < 6; mirror++) {
            for (int what = 0; what < 10; what++) {
                seen.put("of(" + mirror + ", " + what + ")", (long) x.of(mirror, what));
            }
            seen.put("at(" + mirror + ")", (long) x.at(mirror));
            seen.put("union(" + mirror + ")", (long) x.union(mirror));
        }
        for (int part = 0; part < 8; part++) {
            for (int what = 0; what < 3; what++) {
                seen.put("part(" + part + ", " + what + ")", (long) x.part(part, what));
                seen.put("drawn(" + part + ", " + what + ")", (long) x.drawn(part, what));
            }
        }
        seen.put("screws()", (long) x.screws());
        seen.put("fault()", (long) x.fault());
        seen.put("stopped()", (long) x.stopped());
        seen.put("status()", (long) x.status());
    }

    private static void reckoned(NightMirrors x, Map<String, Long> seen) {
        for (int hour = 1; hour <= 8; hour++) {
            seen.put("makes(" + hour + ")", (long) x.makes(hour));
            seen.put("near(" + hour + ")", (long) x.near(hour));
            seen.put("whole(" + hour + ", NONE)", (long) x.whole(hour, NONE));
        }
        for (int n = 0; n <= 6; n++) {
            seen.put("lines(" + n + ", NONE, 0)", (long) x.lines(n, NONE, 0));
            seen.put("lines(" + n + ", 0, 0)", (long) x.lines(n, 0, 0));
            seen.put("listen(" + n + ", 0)", (long) x.listen(n, 0));
            seen.put("listen(" + n + ", 1)", (long) x.listen(n, 1));
            seen.put("ends(" + n + ")", (long) x.ends(n));
            seen.put("wages(" + (n - 1) + ")", (long) x.wages(n - 1));
            seen.put("lasts(" + n + ", 20)", x.lasts(n, 20));
        }
        for (int one = 0; one < 6; one++) {
            for (int hour = 1; hour <= 8; hour++) {
                seen.put("asks(" + one + ", 0, " + hour + ", 0)", (long) x.asks(one, 0, hour, 0));
                seen.put("asks(" + one + ", " + (hour - 1) + ", 1, 1)", (long) x.asks(one, hour - 1, 1, 1));
            }
            seen.put("face(" + one + ", 0, 3, 0)", (long) x.face(one, 0, 3, 0));
            seen.put("face(" + one + ", 0, 3, 1)", (long) x.face(one, 0, 3, 1));
        }
        seen.put("till()", (long) x.till());
        seen.put("twins(NONE)", (long) x.twins(NONE));
        seen.put("ends(60)", (long) x.ends(60));
    }

    private static void undone(NightMirrors x, Map<String, Long> seen) {
        for (int i = 0; i < 17; i++) {
            String time = " behind undo " + i;
            seen.put("undo " + i, (long) x.undo());
            seen.put("night" + time, (long) x.count(13));
            seen.put("stock" + time, (long) x.count(2));
            for (int mirror = 0; mirror < 6; mirror++) {
                seen.put("silver of " + mirror + time, (long) x.of(mirror, 2));
                seen.put("at " + mirror + time, (long) x.at(mirror));
            }
        }
    }

    private static void back(NightMirrors x, int k, Map<String, Long> seen) {
        seen.put("back(" + k + ")", (long) x.back(k));
        held(x, seen);
    }

    private static void backToFirst(NightMirrors x, Map<String, Long> seen) {
        back(x, 0, seen);
    }

    private static void backToSecond(NightMirrors x, Map<String, Long> seen) {
        back(x, 1, seen);
    }

    private static void rowOfTape(NightMirrors x, Map<String, Long> seen) {
        seen.put("row()", (long) x.row());
        held(x, seen);
    }

    private static void textOfTape(NightMirrors x, Map<String, Long> seen) {
        seen.put("law()", (long) x.law());
        seen.put("fault()", (long) x.fault());
        seen.put("force(NONE)", (long) x.force(NONE));
        for (int k = 0; k < 6; k++) {
            x.force(k);
            seen.put("barred by law " + k, (long) x.asks(0, 0, 1, 1));
            seen.put("paid by law " + k, (long) x.part(7, 2));
        }
    }

    /** The one object gets the call, the other one what the document says that the call changes. */
    private static void compare(String call, boolean withTape, Deed ahead, Call c, int by, Deed instead) {
        for (Look look : LOOKS) {
            NightMirrors called = rich(withTape);
            NightMirrors other = rich(withTape);
            ahead.to(called);
            ahead.to(other);
            int[] had = new int[BY.length];
            for (int i = 0; i < BY.length; i++) {
                had[i] = called.count(7 + i);
            }
            long answer = c.with(called, 0);
            if (by < 0) {
                due(call, answer, by);
                due(call + ", status()", called.status(), by);
                for (int i = 0; i < BY.length; i++) {
                    due(call + ", count(" + (7 + i) + ")", called.count(7 + i), had[i] + (BY[i] == by ? 1 : 0));
                }
            }
            instead.to(other);
            Map<String, Long> got = new LinkedHashMap<>();
            Map<String, Long> want = new LinkedHashMap<>();
            look.at(called, got);
            look.at(other, want);
            for (String ask : want.keySet()) {
                boolean tallied = ask.equals("status()") || ask.matches("count\\(([789]|10|11)\\)");
                if (by == 0 || !tallied) {
                    due("behind " + call + ": " + ask, got.get(ask), want.get(ask));
                }
            }
        }
    }

    private static void refused(String call, int by, Call c) {
        compare(call, true, NOTHING, c, by, NOTHING);
    }

    private static void refused(String call, int by, Deed ahead, Call c) {
        compare(call, true, ahead, c, by, NOTHING);
    }

    private static void sixth(NightMirrors x) {
        x.mirror(1, 0, 1);
    }

    private static void allHeard(NightMirrors x) {
        for (int i = 0; i < 6; i++) {
            x.hear(8, i, 0);
        }
    }

    private static void byNumbers() {
        says("-1 a number that can't be");
        refused("mirror(0, 0, 1)", -1, (x, k) -> x.mirror(0, 0, 1));
        refused("mirror(19, 0, 1)", -1, (x, k) -> x.mirror(19, 0, 1));
        refused("mirror(111111, 0, 1)", -1, (x, k) -> x.mirror(111111, 0, 1));
        refused("mirror(1, -1, 1)", -1, (x, k) -> x.mirror(1, -1, 1));
        refused("mirror(1, 8, 1)", -1, (x, k) -> x.mirror(1, 8, 1));
        refused("mirror(1, 0, 0)", -1, (x, k) -> x.mirror(1, 0, 0));
        refused("mirror(1, 0, 31)", -1, (x, k) -> x.mirror(1, 0, 31));
        refused("crack(1, 1, 1)", -1, (x, k) -> x.crack(1, 1, 1));
        refused("crack(0, 2, -1)", -1, (x, k) -> x.crack(0, 2, -1));
        refused("crack(0, 2, 2)", -1, (x, k) -> x.crack(0, 2, 2));
        refused("crack(0, 1, 2)", -1, (x, k) -> x.crack(0, 1, 2));
        refused("clock(-1, 1)", -1, (x, k) -> x.clock(-1, 1));
        refused("clock(8, 1)", -1, (x, k) -> x.clock(8, 1));
        refused("clock(1, -1)", -1, (x, k) -> x.clock(1, -1));
        refused("clock(1, 4)", -1, (x, k) -> x.clock(1, 4));
        refused("terms(-1, 1)", -1, (x, k) -> x.terms(-1, 1));
        refused("terms(4, 1)", -1, (x, k) -> x.terms(4, 1));
        refused("terms(0, -1)", -1, (x, k) -> x.terms(0, -1));
        refused("terms(0, 1000)", -1, (x, k) -> x.terms(0, 1000));
        refused("terms(1, -1)", -1, (x, k) -> x.terms(1, -1));
        refused("terms(1, 11)", -1, (x, k) -> x.terms(1, 11));
        refused("terms(2, -1)", -1, (x, k) -> x.terms(2, -1));
        refused("terms(2, 10)", -1, (x, k) -> x.terms(2, 10));
        refused("terms(3, 0)", -1, (x, k) -> x.terms(3, 0));
        refused("terms(3, 9)", -1, (x, k) -> x.terms(3, 9));
        refused("polish(1, 0)", -1, (x, k) -> x.polish(1, 0));
        refused("polish(1, 31)", -1, (x, k) -> x.polish(1, 31));
        refused("hear(0, 1, 1)", -1, (x, k) -> x.hear(0, 1, 1));
        refused("hear(9, 1, 1)", -1, (x, k) -> x.hear(9, 1, 1));
        refused("hear(1, -1, 1)", -1, (x, k) -> x.hear(1, -1, 1));
        refused("hear(1, 8, 1)", -1, (x, k) -> x.hear(1, 8, 1));
        refused("hear(1, 1, -1)", -1, (x, k) -> x.hear(1, 1, -1));
        refused("hear(1, 1, 2)", -1, (x, k) -> x.hear(1, 1, 2));
        refused("years(-1, 5)", -1, (x, k) -> x.years(-1, 5));
        refused("years(1000001, 5)", -1, (x, k) -> x.years(1000001, 5));
        refused("years(5, 0)", -1, (x, k) -> x.years(5, 0));
        refused("years(5, 61)", -1, (x, k) -> x.years(5, 61));
        refused("image(-1)", -1, (x, k) -> x.image(-1));
        refused("image(2)", -1, (x, k) -> x.image(2));
        refused("back(-1)", -1, (x, k) -> x.back(-1));
        refused("back(2)", -1, (x, k) -> x.back(2));
    }

    private static void byWhatIsNot() {
        says("-2 there is no such MIRROR, LAW, IMAGE");
        refused("crack(5, 0, 1)", -2, (x, k) -> x.crack(5, 0, 1));
        refused("crack(0, 5, 1)", -2, (x, k) -> x.crack(0, 5, 1));
        refused("crack(-1, 0, 1)", -2, (x, k) -> x.crack(-1, 0, 1));
        refused("force(2)", -2, (x, k) -> x.force(2));
        refused("force(-2)", -2, (x, k) -> x.force(-2));
        refused("hang(5)", -2, (x, k) -> x.hang(5));
        refused("hang(-1)", -2, (x, k) -> x.hang(-1));
        refused("down(5)", -2, (x, k) -> x.down(5));
        refused("down(-1)", -2, (x, k) -> x.down(-1));
        refused("polish(5, 1)", -2, (x, k) -> x.polish(5, 1));
        refused("polish(-1, 30)", -2, (x, k) -> x.polish(-1, 30));
        refused("back(1)", -2, (x, k) -> x.back(1));
    }

    private static void byWhatStands() {
        says("-3 it can't be by what stands");
        refused("hang(1), it hangs", -3, (x, k) -> x.hang(1));
        refused("hang(3), barred", -3, (x, k) -> x.hang(3));
        refused("hang(4), no silver", -3, (x, k) -> x.hang(4));
        refused("down(0), it hangs nowhere", -3, (x, k) -> x.down(0));
        refused("polish(1, 1), no stock", -3, RefusedTest::emptyStock, (x, k) -> x.polish(1, 1));
        refused("pass(), the last night", -3, x -> x.terms(0, 999), (x, k) -> x.pass());
        refused("pass(), come to the last night", -3, RefusedTest::lastNight, (x, k) -> x.pass());
        refused("undo(), nothing", -3, x -> x.terms(2, 5), (x, k) -> x.undo());
        refused("undo(), behind back()", -3, x -> x.back(0), (x, k) -> x.undo());
    }

    private static void emptyStock(NightMirrors x) {
        for (int i = 0; i < 99 && x.part(0, 0) > 0; i++) {
            x.polish(2, 1);
        }
    }

    private static void lastNight(NightMirrors x) {
        x.terms(0, 996);
        x.pass();
        x.pass();
        x.pass();
    }

    /** No call takes a mirror away, but back() to an image that was kept ahead of the first one. */
    private static void yearsWithoutMirrors() {
        NightMirrors x = new NightMirrors();
        x.image(0);
        x.mirror(1, 0, 30);
        x.years(29, 3);
        x.back(0);
        due("years(5, 5), no mirrors", x.years(5, 5), -3);
        due("drawn(0, 0), the years ahead of it", x.drawn(0, 0), 6);
        due("drawn(0, 1)", x.drawn(0, 1), 29);
        due("drawn(0, 2)", x.drawn(0, 2), 0);
        due("count(9)", x.count(9), 1);
        due("status()", x.status(), -3);
    }

    private static void byRoom() {
        says("-5 no room");
        refused("a seventh mirror", -5, RefusedTest::sixth, (x, k) -> x.mirror(2, 2, 2));
        refused("a ninth hear()", -5, RefusedTest::allHeard, (x, k) -> x.hear(1, 1, 1));
        says("-5 (ahead of reading it; the TAPE is empty then, too)");
        for (String text : new String[] {"bars", "bars 1", "", "   "}) {
            compare("a seventh law: " + text, false, x -> sixLaws(x, text), (x, k) -> x.law(), -5, x -> x.end(0));
        }
    }

    private static void sixLaws(NightMirrors x, String then) {
        for (int i = 0; i < 4; i++) {
            law(x, "pays 4" + i);
        }
        orders(x, "pass?");
        say(x, then);
    }

    private static void byTexts() {
        says("-6 a TEXT, a ROW that can't be");
        compare("row()", false, NOTHING, (x, k) -> x.row(), -6, NOTHING);
        // What is read and can't be leaves its fault; another text with the same fault leaves the same.
        compare("law() of an empty tape", false, NOTHING, (x, k) -> x.law(), -6, x -> law(x, "?"));
        compare("law()", false, x -> say(x, "pays 1;hang 1"), (x, k) -> x.law(), -6, x -> law(x, "bars   ?"));
        compare("law() of blanks", false, x -> say(x, "  "), (x, k) -> x.law(), -6, x -> law(x, "  ;"));
        says("orders() .. -6 (as for law())");
        compare("orders() of blanks", false, x -> say(x, " "), (x, k) -> x.orders(), -6, x -> orders(x, " ?"));
        compare("orders() of an empty tape", false, NOTHING, (x, k) -> x.orders(), -6, x -> orders(x, "?"));
        compare("orders()", false, x -> say(x, "pass;hang 1;"), (x, k) -> x.orders(), -6,
            x -> orders(x, "pass        ?"));
        says("orders() .. -3 one can't be: all is as it was ahead of it");
        String[] texts = {"down 9", "pass times 20;hang 9", "hang 0;hang 2;pass;polish 1 by 30;down 1;hang 3",
            "pass times 20;polish 2 by 3;hang 0;hang 0", "pass if done=0;polish 0 by 31 if done=1", "hang 1/0"};
        for (String text : texts) {
            compare("orders: " + text, false, x -> say(x, text), (x, k) -> x.orders(), -3, x -> sameStop(x, text));
        }
    }

    /** An order that stops at the same clause and does nothing ahead of it. */
    private static void sameStop(NightMirrors x, String text) {
        int clause = (int) text.chars().filter(c -> c == ';').count();
        orders(x, times("pass if 1=2;", clause) + "down 9");
    }

    private static void answersOfNone() {
        says("NONE, if there would be more than 400; NONE, if it has not so many, or n is below 0");
        refused("end(-1)", 0, (x, k) -> x.end(-1));
        refused("end() of one more", 0, (x, k) -> x.end(x.count(6) + 1));
        refused("end() of all", 0, (x, k) -> x.end(x.count(6)));
        compare("feed beyond 400", true, RefusedTest::fullTape, (x, k) -> x.feed(1, 1, 1, 1, 1), 0, NOTHING);
    }

    private static void fullTape(NightMirrors x) {
        int had = x.count(6);
        for (int i = 0; i < 19; i++) {
            due("feed", x.feed(0x20202020, 0x20202020, 0x20202020, 0x20202020, 0x20202020), had + 20 * (i + 1));
        }
    }

    private static void asksOnly() {
        says("What is asked, or reckoned on paper, changes nothing");
        int[] numbers = {LEAST, -2, -1, 0, 1, 3, 5, 6, 8, 9, 60, 61, MOST};
        for (int n : numbers) {
            compare("asks with " + n, true, NOTHING, (x, k) -> askAll(x, n), 0, NOTHING);
        }
        says("YEARS .. on paper, kept as the latest");
        compare("years", true, NOTHING, (x, k) -> x.years(5, 60), 0, x -> x.years(5, 60));
        NightMirrors x = rich(true);
        int sum = x.count(2) * 1000 + x.count(13);
        x.years(5, 60);
        due("stock and night behind years", x.count(2) * 1000 + x.count(13), sum);
    }

    /** An image of the rich object, taken, everything changed, and gone back to. */
    private static void images() {
        says("BACK to one all that it keeps is as it was then (IMAGES stay)");
        for (int k = 0; k < 2; k++) {
            for (Look look : new Look[] {RefusedTest::held, RefusedTest::reckoned}) {
                NightMirrors x = rich(true);
                NightMirrors other = rich(true);
                x.image(k);
                changeAll(x);
                due("back(" + k + ")", x.back(k), 0);
                Map<String, Long> got = new LinkedHashMap<>();
                Map<String, Long> want = new LinkedHashMap<>();
                look.at(x, got);
                look.at(other, want);
                for (String ask : want.keySet()) {
                    boolean kept = !ask.matches("(drawn|screws|fault|stopped|status).*|count\\(([5-9]|10|11)\\)");
                    if (kept) {
                        due("behind back(" + k + "): " + ask, got.get(ask), want.get(ask));
                    }
                }
            }
        }
        twoPasts();
        notKept();
    }

    /** What one image keeps stays, though other mirrors and laws come in the place of these behind the other one. */
    private static void twoPasts() {
        NightMirrors x = new NightMirrors();
        x.image(0);
        past(x, 0);
        x.image(1);
        isPast(x, 0);
        x.back(0);
        past(x, 1);
        isPast(x, 1);
        x.image(0);
        due("back(1)", x.back(1), 0);
        isPast(x, 0);
        due("back(0)", x.back(0), 0);
        isPast(x, 1);
    }

    private static void past(NightMirrors x, int k) {
        for (int i = 0; i < 6; i++) {
            due("mirror " + i, x.mirror(k == 0 ? i + 1 : 11 * (8 - i), (i + k) % 8, 10 * k + i + 1), i);
            due("law " + i, law(x, "pays " + (50 * k + i)), i);
        }
    }

    private static void isPast(NightMirrors x, int k) {
        for (int i = 0; i < 6; i++) {
            String of = " of " + i + " in the past " + k;
            due("how many parts" + of, x.of(i, 0), 1 + k);
            due("bend" + of, x.of(i, 1), (i + k) % 8);
            due("silver" + of, x.of(i, 2), 10 * k + i + 1);
            due("first part" + of, x.of(i, 5), k == 0 ? i : 7 - i);
            due("second part" + of, x.of(i, 6), k == 0 ? NONE : 7 - i);
            x.force(i);
            due("paid by law" + of, x.part(0, 2), 50 * k + i);
        }
    }

    private static void changeAll(NightMirrors x) {
        law(x, "pays 50;makes 7;wears 7;bars");
        x.mirror(88888, 7, 7);
        x.crack(0, 2, 0);
        x.crack(0, 1, 1);
        x.crack(4, 5, 1);
        for (int what = 0; what < 4; what++) {
            x.terms(what, x.count(13 + what) + 1);
        }
        for (int part = 0; part < 8; part++) {
            x.clock(part, 3 - x.part(part, 1));
        }
        x.forget();
        for (int hour = 1; hour <= 8; hour++) {
            x.hear(hour, 8 - hour, hour % 2);
        }
        x.force(1);
        x.hang(2);
        x.pass();
        x.polish(3, 30);
        x.hang(3);
        x.down(1);
        x.pass();
    }

    private static void notKept() {
        says("IMAGES 0, 1 keep all but the TAPE, FAULT, SCREWS, where ORDERS stopped, .. the latest YEARS");
        NightMirrors x = rich(false);
        x.image(1);
        row(x, 9, 9, 9);
        law(x, "bars; ?");
        orders(x, "pass;pass;pass;down 9");
        orders(x, "pass if 1=2;pass if 1=2;down 9");
        law(x, "bars    ?");
        x.years(29, 40);
        Map<String, Long> ahead = new LinkedHashMap<>();
        held(x, ahead);
        say(x, "bars");
        x.back(1);
        due("the tape", x.count(6), 4);
        due("count(5)", x.count(5), 0);
        due("fault()", x.fault(), 8);
        due("screws()", x.screws(), 3);
        due("stopped()", x.stopped(), 2);
        Map<String, Long> behind = new LinkedHashMap<>();
        held(x, behind);
        for (String ask : ahead.keySet()) {
            if (ask.matches("drawn.*|count\\(([7-9]|10|11)\\)")) {
                due("behind back(1): " + ask, behind.get(ask), ahead.get(ask));
            }
        }
        due("law() of the tape", x.law(), x.count(4) - 1);
    }

    private static long askAll(NightMirrors x, int n) {
        return x.of(n, 2) + x.of(0, n) + x.at(n) + x.asks(n, 0, 1, 0) + x.asks(0, n, 1, 0) + x.asks(0, 0, n, 0)
            + x.asks(0, 0, 1, n) + x.part(n, 0) + x.part(0, n) + x.screws() + x.fault() + x.stopped() + x.makes(n)
            + x.whole(n, NONE) + x.whole(1, n) + x.near(n) + x.lines(n, NONE, 0) + x.lines(2, n, 0) + x.lines(2, 0, n)
            + x.listen(n, 0) + x.listen(2, n) + x.face(n, 0, 0, 0) + x.face(0, n, 0, 0) + x.face(0, 0, n, 0)
            + x.face(0, 0, 0, n) + x.union(n) + x.ends(n) + x.till() + x.twins(n) + x.lasts(n, 3) + x.lasts(0, n)
            + x.wages(n) + x.drawn(n, 0) + x.drawn(0, n) + x.count(n) + x.status();
    }

    public static void main(String[] args) {
        byNumbers();
        byWhatIsNot();
        byWhatStands();
        yearsWithoutMirrors();
        byRoom();
        byTexts();
        answersOfNone();
        asksOnly();
        images();
        finish("sentences on refused calls");
    }
}
