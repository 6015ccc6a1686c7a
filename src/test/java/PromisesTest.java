/** One method for each promise of the document: ordinary inputs, the edges it names, wrong inputs. */
public final class PromisesTest extends Dues {
    private static void p1() {
        NightMirrors x = new NightMirrors();
        int[] first = {0, 0, 0, 0, 0, 0, 0, 0, 0, 0, 0, 0, NONE, 0, 3, 0, 6, NONE};
        for (int what = 0; what < first.length; what++) {
            due("count(" + what + ")", x.count(what), first[what]);
        }
        for (int part = 0; part < 8; part++) {
            due("stock", x.part(part, 0), 0);
            due("clock", x.part(part, 1), 0);
            due("paid", x.part(part, 2), 1);
        }
        due("at(0)", x.at(0), NONE);
        due("status()", x.status(), 0);
        due("fault()", x.fault(), NONE);
        due("stopped()", x.stopped(), NONE);
        due("screws()", x.screws(), 0);
        due("drawn(0, 0)", x.drawn(0, 0), NONE);
        due("back(0)", x.back(0), -2);
    }

    private static void p2() {
        NightMirrors x = new NightMirrors();
        int[][] bad = {{0, 0, 1}, {-1, 0, 1}, {9, 0, 1}, {10, 0, 1}, {101, 0, 1}, {190, 0, 1}, {111111, 0, 1},
            {Integer.MIN_VALUE, 0, 1}, {Integer.MAX_VALUE, 0, 1}, {1, -1, 1}, {1, 8, 1}, {1, 0, 0}, {1, 0, 31}};
        for (int[] b : bad) {
            due("mirror(" + b[0] + ", " + b[1] + ", " + b[2] + ")", x.mirror(b[0], b[1], b[2]), -1);
        }
        due("mirror(1, 0, 1)", x.mirror(1, 0, 1), 0);
        due("mirror(88888, 7, 30)", x.mirror(88888, 7, 30), 1);
        for (int i = 2; i < 6; i++) {
            due("mirror(18, 0, 5)", x.mirror(18, 0, 5), i);
        }
        due("mirror(18, 0, 5)", x.mirror(18, 0, 5), -5);
        due("mirror(19, 0, 5) with no room", x.mirror(19, 0, 5), -1);
        due("count(0)", x.count(0), 6);
    }

    private static void p3() {
        NightMirrors x = under("wears place + 3");
        x.mirror(18273, 4, 9);
        x.mirror(6, 0, 30);
        int[] want = {5, 4, 9, NONE, 2, 0, 7, 1, 6, 2, NONE};
        for (int what = 0; what < want.length; what++) {
            due("of(0, " + what + ")", x.of(0, what), want[what]);
        }
        due("of(1, 5)", x.of(1, 5), 5);
        due("of(1, 6)", x.of(1, 6), NONE);
        x.hang(1);
        x.hang(0);
        due("of(0, 3)", x.of(0, 3), 1);
        due("of(0, 4)", x.of(0, 4), 4);
        due("of(1, 4)", x.of(1, 4), 3);
        due("of(2, 0)", x.of(2, 0), NONE);
        due("of(-1, 0)", x.of(-1, 0), NONE);
        due("of(0, -1)", x.of(0, -1), NONE);
        due("of(0, least)", x.of(0, Integer.MIN_VALUE), NONE);
        due("wears held at 9", wear("wears 400"), 9);
        due("wears held at 0", wear("wears 0 - 4"), 0);
        due("wears without", wear("wears 5 if mirror = 3"), 1);
        due("wears of the last that holds", wear("wears 5;wears 6;wears 1 / 0;wears 7 if bend = 1"), 6);
        due("wears knows", wear("wears 4 if hour = 0 - 1 and part = 0 - 1 and place = 0 - 1 and silver = 8"), 4);
    }

    private static int wear(String text) {
        NightMirrors x = under(text);
        x.mirror(1, 0, 8);
        return x.of(0, 4);
    }

    private static void p4() {
        NightMirrors x = new NightMirrors();
        for (int i = 0; i < 6; i++) {
            x.mirror(1, 0, 5);
        }
        for (int i = 5; i >= 0; i--) {
            x.hang(i);
        }
        for (int place = 0; place < 6; place++) {
            due("at(" + place + ")", x.at(place), 5 - place);
        }
        due("at(-1)", x.at(-1), NONE);
        due("at(6)", x.at(6), NONE);
    }

    private static void p5() {
        NightMirrors x = new NightMirrors();
        x.mirror(123, 6, 9);
        int[] hours = {NONE, 0, 7, 6, 0, 7, 6, 0};
        for (int hour = 1; hour <= 8; hour++) {
            due("asks(0, 1, " + hour + ", 0)", x.asks(0, 1, hour, 0), hours[hour - 1]);
        }
        due("asks(0, 5, 5, 0)", x.asks(0, 5, 5, 0), NONE);
        due("asks(0, 5, 6, 0)", x.asks(0, 5, 6, 0), 0);
        due("asks(0, 5, 5, 1)", x.asks(0, 5, 5, 1), 0);
        int[][] bad = {{1, 0, 1, 0}, {-1, 0, 1, 0}, {0, -1, 1, 0}, {0, 6, 8, 0}, {0, 0, 0, 0}, {0, 0, 9, 0},
            {0, 0, 1, 2}, {0, 0, 1, -1}, {0, 6, 1, 1}, {0, 0, 9, 1}};
        for (int[] b : bad) {
            due("asks of wrong numbers", x.asks(b[0], b[1], b[2], b[3]), NONE);
        }
        NightMirrors y = under("makes 900 if hour = 1;makes 0 - 3 if hour = 2;makes place * 2 if hour = 3;"
            + "makes part + bend if hour = 4;makes silver if hour = 5;makes mirror if hour = 6;"
            + "makes mood if hour = 7;makes night if hour = 8;bars if place = 2 and hour < 0 and part = 0 - 1");
        y.mirror(12, 1, 3);
        y.mirror(12, 1, 3);
        y.terms(2, 5);
        y.terms(0, 6);
        int[] made = {7, 0, 0, 1, 3, 1, 5, 6};
        for (int hour = 1; hour <= 8; hour++) {
            due("asks(1, 0, " + hour + ", 0) by law", y.asks(1, 0, hour, 0), made[hour - 1]);
        }
        due("asks(1, 2, 3, 0)", y.asks(1, 2, 3, 0), 4);
        due("asks(1, 2, 1, 1)", y.asks(1, 2, 1, 1), 1);
        due("asks(1, 1, 1, 1)", y.asks(1, 1, 1, 1), 0);
    }

    private static void p6() {
        NightMirrors x = new NightMirrors();
        due("crack(0, 0, 2)", x.crack(0, 0, 2), -1);
        due("crack(7, 7, 1)", x.crack(7, 7, 1), -1);
        due("crack(0, 1, -1)", x.crack(0, 1, -1), -1);
        due("crack(0, 1, 2)", x.crack(0, 1, 2), -1);
        due("crack(0, 1, 1)", x.crack(0, 1, 1), -2);
        x.mirror(1, 0, 1);
        x.mirror(1, 0, 1);
        due("crack(0, 2, 1)", x.crack(0, 2, 1), -2);
        due("crack(-1, 0, 1)", x.crack(-1, 0, 1), -2);
        due("crack(0, 1, 1)", x.crack(0, 1, 1), 0);
        due("crack(1, 0, 1)", x.crack(1, 0, 1), 1);
        due("crack(1, 0, 0)", x.crack(1, 0, 0), 1);
        due("crack(0, 1, 0)", x.crack(0, 1, 0), 0);
        due("union(0)", x.union(0), 1);
    }

    private static void p7() {
        NightMirrors x = under("pays part * 30;pays 0 - 5 if part = 1;"
            + "pays 9 if part = 2 and mirror + place + bend + silver + hour = 0 - 5");
        x.mirror(4, 0, 3);
        x.hang(0);
        x.pass();
        x.clock(3, 2);
        due("part(3, 0)", x.part(3, 0), 6);
        due("part(3, 1)", x.part(3, 1), 2);
        due("part(3, 2)", x.part(3, 2), 90);
        due("part(4, 2)", x.part(4, 2), 99);
        due("part(1, 2)", x.part(1, 2), 0);
        due("part(2, 2)", x.part(2, 2), 9);
        due("part(8, 0)", x.part(8, 0), NONE);
        due("part(-1, 0)", x.part(-1, 0), NONE);
        due("part(0, 3)", x.part(0, 3), NONE);
        due("part(0, -1)", x.part(0, -1), NONE);
    }

    private static void p8() {
        NightMirrors x = new NightMirrors();
        due("clock(7, 3)", x.clock(7, 3), 0);
        due("clock(7, 0)", x.clock(7, 0), 3);
        due("clock(7, 4)", x.clock(7, 4), -1);
        due("clock(7, -1)", x.clock(7, -1), -1);
        due("clock(8, 1)", x.clock(8, 1), -1);
        due("clock(-1, 1)", x.clock(-1, 1), -1);
        due("part(7, 1)", x.part(7, 1), 0);
    }

    private static void p9() {
        NightMirrors x = new NightMirrors();
        int[] first = {0, 3, 0, 6};
        int[] low = {0, 0, 0, 1};
        int[] high = {999, 10, 9, 8};
        for (int what = 0; what < 4; what++) {
            due("too low", x.terms(what, low[what] - 1), -1);
            due("too high", x.terms(what, high[what] + 1), -1);
            due("lowest", x.terms(what, low[what]), first[what]);
            due("highest", x.terms(what, high[what]), low[what]);
            due("count", x.count(13 + what), high[what]);
        }
        due("terms(4, 1)", x.terms(4, 1), -1);
        due("terms(-1, 1)", x.terms(-1, 1), -1);
    }

    private static void p10() {
        NightMirrors x = new NightMirrors();
        for (int i = 1; i <= 20; i++) {
            due("feed", x.feed(0, 0, 0, 0, 0), 20 * i);
        }
        due("feed beyond 400", x.feed(0, 0, 0, 0, 0), NONE);
        x.end(381);
        due("feed beyond 400 by one", x.feed(0, 0, 0, 0, 0), NONE);
        due("count(6)", x.count(6), 381);
        x.end(380);
        due("feed up to 400", x.feed(0, 0, 0, 0, 0), 400);
        x.end(0);
        x.feed(0x01020304, 0x05060708, 0xff000000, 0x07070707, -1);
        x.row();
        int[] clock = {3, 1, 1, 1, 1, 1, 1, 3};
        for (int part = 0; part < 8; part++) {
            due("clock behind feed", x.part(part, 1), clock[part]);
        }
    }

    private static void p11() {
        NightMirrors x = new NightMirrors();
        due("end(0)", x.end(0), 0);
        due("end(1)", x.end(1), NONE);
        x.feed(0, 0, 0, 0, 0);
        due("end(-1)", x.end(-1), NONE);
        due("end(21)", x.end(21), NONE);
        due("end(20)", x.end(20), 20);
        due("end(3)", x.end(3), 3);
        due("end(4)", x.end(4), NONE);
        due("count(6)", x.count(6), 3);
        due("status()", x.status(), 0);
    }

    private static void p12() {
        NightMirrors x = new NightMirrors();
        due("row()", x.row(), -6);
        say(x, "\u0000\u0000\u0007\u0000\u0000\u0008\u00ff");
        due("row()", x.row(), 4);
        due("part(0, 1)", x.part(0, 1), 3);
        due("part(7, 1)", x.part(7, 1), 1);
        due("count(6)", x.count(6), 0);
        say(x, "\u0000\u0030");
        due("row() of screws alone", x.row(), 0);
        due("status()", x.status(), 0);
        x.feed(0x03030303, 0x03030303, 0x03030303, 0x03030303, 0x03030303);
        x.end(2);
        due("row() of what end() left alone", x.row(), 2);
        due("part(3, 1)", x.part(3, 1), 2);
    }

    private static void p13() {
        NightMirrors x = new NightMirrors();
        say(x, "\u0001\u0001\u0001\u0001\u0009");
        x.row();
        due("screws()", x.screws(), 2);
        due("row()", x.row(), -6);
        due("screws() behind a refused one", x.screws(), 2);
        say(x, "\u0002");
        x.row();
        due("screws()", x.screws(), 0);
    }

    private static void p14() {
        NightMirrors x = new NightMirrors();
        due("law of nothing", x.law(), -6);
        due("law of blanks", law(x, "   "), -6);
        due("fault()", x.fault(), 3);
        for (int i = 0; i < 6; i++) {
            due("law()", law(x, "bars"), i);
        }
        due("seventh", law(x, "bars"), -5);
        due("tape", x.count(6), 0);
        due("seventh that can't be", law(x, "?"), -5);
        due("fault() of what was read", x.fault(), NONE);
        grammar();
        sums();
        tests();
    }

    private static void grammar() {
        good("makes part+1;wears[1];pays 1000 if not(hour=1)or 1<2 and 2>1;bars");
        good(" makes  0001000 ");
        faulty(true, "makes 1;", 8);
        faulty(true, "makes 1 ; ", 10);
        faulty(true, ";makes 1", 0);
        faulty(true, "makes1makes", 6);
        faulty(true, "Makes 1", 0);
        faulty(true, "makes 1001", 6);
        faulty(true, "makes 99999999999999999999", 6);
        faulty(true, "makes 4294967297", 6);
        faulty(true, "makes hung", 6);
        faulty(true, "makes silver 1", 13);
        faulty(true, "makes - 1", 6);
        faulty(true, "makes (1)", 6);
        faulty(true, "makes [1)", 8);
        faulty(true, "bars 1", 5);
        faulty(true, "bars times 2", 5);
        faulty(true, "hang 1", 0);
        faulty(true, "makes 1 by 2", 8);
        faulty(true, "bars if", 7);
        faulty(true, "bars if 1", 9);
        faulty(true, "bars if 1 and", 10);
        faulty(true, "bars if 1 = 2 = 3", 14);
        faulty(true, "bars if [1 = 2]", 11);
        faulty(true, "bars if (1) = 2", 10);
        faulty(true, "bars if not", 11);
        faulty(true, "bars if 1 = 1 not", 14);
        faulty(true, "bars if 1 = 1)", 13);
        faulty(true, "bars if 1 = 1 if 1 = 1", 14);
        faulty(true, "makes 1 + ;", 10);
        faulty(true, "makes 1\t+ 1", 7);
        faulty(true, "makes \u00e9", 6);
        good("bars" + times(";bars", 11));
        faulty(true, "bars" + times(";bars", 12), 60);
        faulty(true, "bars" + times(";bars", 11) + "; ", 61);
        faulty(true, "bars" + times(";bars", 11) + " 1;", 60);
        good("makes 1" + times("+1", 49));
        faulty(true, "makes 1" + times("+1", 50), 106);
        faulty(true, "makes 1" + times("+1", 49) + " if part = 1", 109);
        good("makes 1" + times("+1", 24) + ";makes part" + times("+1", 24) + ";bars");
        faulty(true, "makes 1" + times("+1", 24) + ";makes part" + times("+1", 24) + ";pays 1", 120);
        good("makes " + times("[", 8) + "1" + times("]", 8));
        faulty(true, "makes " + times("[", 9) + "1" + times("]", 9), 14);
        good("bars if " + times("(", 4) + times("[", 4) + "1" + times("]", 4) + " = 1" + times(")", 4));
        faulty(true, "bars if " + times("(", 4) + times("[", 5) + "1", 16);
        faulty(true, "bars if " + times("(", 9), 16);
        good("bars if " + times("not ", 95) + "1 = 1");
    }

    private static void sums() {
        sum("2 + 3 * 4", 14);
        sum("[2 + 3] * 4", 20);
        sum("20 - 3 - 4", 13);
        sum("60 / 4 / 5 * 7", 21);
        sum("2 * 7 % 5 * 3", 12);
        sum("1 + 2 * 3 - 8 / 4 + 1", 6);
        sum("50 + [0 - 7] / 2", 47);
        sum("50 + [0 - 7] % 2", 49);
        sum("50 + 7 / [0 - 2]", 47);
        sum("50 + 7 % [0 - 2]", 51);
        sum("1 / 0", 77);
        sum("1 % [1 - 1]", 77);
        sum("1000 * 1000 * 1000 / 1000 / 1000 / 100", 10);
        sum("[1000 * 1000 * 1000 + 1] * 0", 77);
        sum("[0 - 1000 * 1000 * 1000] * 0 + 5", 5);
        sum("[0 - 1000 * 1000 * 1000 - 1] * 0", 77);
        sum("1000 * 1000 * 1000 * 1000 * 0", 77);
        sum("0 - 1", 0);
        sum("1000", 99);
    }

    private static void tests() {
        test("1 < 2", true);
        test("2 < 2", false);
        test("2 > 1", true);
        test("2 > 2", false);
        test("2 = 2", true);
        test("2 = 1", false);
        test("not 2 = 1", true);
        test("not not 2 = 1", false);
        test("1 = 1 or 1 = 2 and 1 = 2", true);
        test("(1 = 1 or 1 = 2) and 1 = 2", false);
        test("1 = 2 and 1 = 1 or 1 = 1", true);
        test("1 = 2 or 1 = 1 and 1 = 1 or 1 = 2", true);
        test("not 1 = 1 or 1 = 1", true);
        test("not (1 = 1 or 1 = 1)", false);
        test("1 = 1 or 1 / 0 = 1", true);
        test("1 / 0 = 1 or 1 = 1", false);
        test("1 = 2 or 1 / 0 = 1", false);
        test("not (1 = 2 and 1 / 0 = 1)", true);
        test("not 1 / 0 = 1", false);
        test("not (1 = 1 and 1 / 0 = 1)", false);
        test("1 = 2 and 1 / 0 = 1 or 3 = 3", true);
        test("1 = 1 and (1 = 1 or 1 / 0 = 1)", true);
        test("1000 * 1000 * 1000 < 1000 * 1000 * 1000 + 1", false);
    }

    private static void p15() {
        NightMirrors x = new NightMirrors();
        due("orders of nothing", x.orders(), -6);
        due("orders of blanks", orders(x, "  "), -6);
        due("fault()", x.fault(), 2);
        faulty(false, "pass times 0", 11);
        faulty(false, "pass times 21", 11);
        faulty(false, "pass times", 10);
        faulty(false, "pass times night", 11);
        faulty(false, "pass if 1 = 1 times 2", 14);
        faulty(false, "pass 1", 5);
        faulty(false, "polish 1 if 1 = 1", 9);
        faulty(false, "polish by 1", 7);
        faulty(false, "hang silver", 11);
        faulty(false, "hang silver 6", 12);
        faulty(false, "hang silver done", 12);
        faulty(false, "hang stock 8", 11);
        faulty(false, "hang mood", 5);
        faulty(false, "bars", 0);
        faulty(false, "passz", 0);
        faulty(false, "polish 0 by " + times("[", 9), 20);
        faulty(false, "polish 0 by " + times("[", 8) + "1" + times("]", 7), 28);
        faulty(false, "pass" + times(";pass", 12), 60);
        faulty(false, "hang stock 7" + times("+1", 50), 111);
        faulty(false, "pass if " + times("(", 9), 16);
        due("fifty parts", orders(x, "pass times 20 if silver 5" + times("+1", 48) + "=0"), 0);
        x.mirror(1, 0, 30);
        x.mirror(2, 0, 30);
        due("orders that are run", orders(x, "hang 1;hang 0 if hung = 1;pass times 3;polish 0 by 1 if stock 0 > 0"), 6);
        due("night", x.count(13), 3);
        due("silver", x.of(0, 2), 28);
        due("none is run", orders(x, "pass if done = 1;hang 9 if 1 / 0 = 0;down 0 if night = 4"), 0);
        due("done", orders(x, "pass times 20 if done < 4;pass if done = 4 and latest = 11 and night = 7"), 5);
        due("latest at first", orders(x, "pass if latest = 0 - 1;pass if latest = 0 - 1"), 1);
        due("silver of none", orders(x, "pass if silver 2 = 0 - 1"), 1);
        due("stock", orders(x, "pass if stock 7 = 0 and stock 1 > 5"), 1);
        int night = x.count(13);
        int undone = x.count(5);
        due("all or nothing", orders(x, "down 0;pass times 20;polish 1 by 31"), -3);
        due("stopped()", x.stopped(), 2);
        due("night", x.count(13), night);
        due("at(1)", x.at(1), 0);
        due("count(5)", x.count(5), undone);
        due("status()", x.status(), -3);
        due("a broken sum", orders(x, "hang 1 / [hung - 2]"), -3);
        due("no such mirror", orders(x, "hang 0 - 1"), -3);
        due("one that hangs", orders(x, "hang 0"), -3);
        due("behind the last night", orders(x, "pass times 20" + times(";pass times 20", 11)), 240);
        x.terms(0, 998);
        due("behind the last night", orders(x, "pass;pass"), -3);
        due("night", x.count(13), 998);
        due("tape", x.count(6), 0);
    }

    private static void p16() {
        NightMirrors x = new NightMirrors();
        due("fault()", x.fault(), NONE);
        law(x, "bars;;");
        due("fault()", x.fault(), 5);
        orders(x, "pass");
        due("fault()", x.fault(), NONE);
        orders(x, "pass pass");
        due("fault()", x.fault(), 5);
        x.row();
        due("fault()", x.fault(), 5);
        orders(x, "hang 0");
        due("fault() of orders that stopped", x.fault(), NONE);
        for (int i = 0; i < 6; i++) {
            law(x, "bars");
        }
        orders(x, "?");
        law(x, "bars");
        due("fault() of what was read", x.fault(), 0);
    }

    private static void p17() {
        NightMirrors x = new NightMirrors();
        orders(x, "pass;pass times 2;down 0");
        due("stopped()", x.stopped(), 2);
        law(x, "bars");
        due("stopped()", x.stopped(), 2);
        orders(x, "pass");
        due("stopped()", x.stopped(), NONE);
        orders(x, "down 0");
        due("stopped()", x.stopped(), 0);
        orders(x, "down");
        due("stopped() of what can't be read", x.stopped(), NONE);
    }

    private static void p18() {
        NightMirrors x = new NightMirrors();
        due("force(0)", x.force(0), -2);
        due("force(NONE)", x.force(NONE), NONE);
        due("status()", x.status(), 0);
        law(x, "pays 5");
        law(x, "pays 6");
        due("force(1)", x.force(1), NONE);
        due("part(0, 2)", x.part(0, 2), 6);
        due("force(0)", x.force(0), 1);
        due("part(0, 2)", x.part(0, 2), 5);
        due("force(2)", x.force(2), -2);
        due("force(-2)", x.force(-2), -2);
        due("force(NONE)", x.force(NONE), 0);
        due("part(0, 2)", x.part(0, 2), 1);
    }

    private static void p19() {
        NightMirrors x = under("bars if mirror = 0 and place = 0;wears 9");
        x.mirror(1, 0, 9);
        x.mirror(1, 0, 9);
        due("hang(2)", x.hang(2), -2);
        due("hang(-1)", x.hang(-1), -2);
        due("hang(0), barred", x.hang(0), -3);
        due("hang(1)", x.hang(1), 0);
        due("hang(1), hangs", x.hang(1), -3);
        due("hang(0)", x.hang(0), 1);
        x.pass();
        due("hang(1), no silver", x.hang(1), -3);
        due("count(1)", x.count(1), 0);
    }

    private static void p20() {
        NightMirrors x = new NightMirrors();
        due("down(0)", x.down(0), -2);
        for (int i = 0; i < 3; i++) {
            x.mirror(1, 0, 9);
            x.hang(i);
        }
        due("down(1)", x.down(1), 1);
        due("down(1)", x.down(1), -3);
        due("at(1)", x.at(1), 2);
        due("at(2)", x.at(2), NONE);
        due("down(2)", x.down(2), 1);
        due("down(0)", x.down(0), 0);
        due("down(3)", x.down(3), -2);
        due("down(-1)", x.down(-1), -2);
    }

    private static void p21() {
        NightMirrors x = new NightMirrors();
        due("polish(0, 31)", x.polish(0, 31), -1);
        due("polish(0, 30)", x.polish(0, 30), -2);
        x.mirror(1, 0, 1);
        due("polish(0, 30)", x.polish(0, 30), -3);
        due("polish(0, 0)", x.polish(0, 0), -1);
        x.hang(0);
        x.pass();
        due("of(0, 2)", x.of(0, 2), 0);
        due("polish(0, 1)", x.polish(0, 1), 1);
        due("polish(0, 28)", x.polish(0, 28), 29);
        due("polish(0, 30)", x.polish(0, 30), 30);
        due("polish(0, 1)", x.polish(0, 1), 30);
        due("part(0, 0)", x.part(0, 0), 2);
        due("polish(1, 1)", x.polish(1, 1), -2);
    }

    private static void p22() {
        NightMirrors x = under("wears 9 if mirror = 0;wears place + night if mirror = 1;"
            + "wears silver / 2 if mirror = 2");
        x.mirror(12, 0, 9);
        x.mirror(3, 1, 20);
        x.mirror(4, 0, 8);
        x.hang(0);
        x.hang(1);
        x.hang(2);
        due("pass()", x.pass(), 15);
        int[] stock = {3, 3, 0, 9, 0, 0, 0, 0};
        for (int part = 0; part < 8; part++) {
            due("part(" + part + ", 0)", x.part(part, 0), stock[part]);
        }
        due("of(0, 2)", x.of(0, 2), 0);
        due("of(0, 3)", x.of(0, 3), NONE);
        due("of(1, 2), worn at the place where it was", x.of(1, 2), 19);
        due("of(2, 2)", x.of(2, 2), 4);
        due("at(0)", x.at(0), 1);
        due("at(1)", x.at(1), 2);
        due("count(13)", x.count(13), 1);
        x.terms(3, 1);
        due("pass() of one hour", x.pass(), 1);
        x.terms(3, 8);
        due("pass() of eight", x.pass(), 15);
        NightMirrors y = under("wears 0");
        y.mirror(1, 0, 1);
        y.hang(0);
        for (int i = 0; i < 16; i++) {
            due("pass()", y.pass(), 6);
        }
        due("part(0, 0)", y.part(0, 0), 96);
        due("pass()", y.pass(), 6);
        due("part(0, 0)", y.part(0, 0), 99);
        y.terms(0, 999);
        due("pass()", y.pass(), -3);
        y.terms(0, 998);
        due("pass()", y.pass(), 6);
        due("count(13)", y.count(13), 999);
    }

    private static void p23() {
        NightMirrors x = new NightMirrors();
        due("undo()", x.undo(), -3);
        x.mirror(1, 0, 5);
        x.hang(0);
        x.pass();
        x.polish(0, 9);
        x.down(0);
        x.crack(0, 1, 1);
        x.clock(1, 2);
        due("down", x.undo(), 1);
        due("at(0)", x.at(0), 0);
        due("polish", x.undo(), 2);
        due("of(0, 2)", x.of(0, 2), 4);
        due("part(0, 0)", x.part(0, 0), 6);
        due("pass", x.undo(), 3);
        due("count(13)", x.count(13), 0);
        due("of(0, 2)", x.of(0, 2), 5);
        due("part(0, 0)", x.part(0, 0), 0);
        due("hang", x.undo(), 0);
        due("count(1)", x.count(1), 0);
        due("undo()", x.undo(), -3);
        due("part(1, 1)", x.part(1, 1), 2);
        orders(x, "hang 0;pass times 20");
        due("count(5)", x.count(5), 16);
        for (int i = 0; i < 16; i++) {
            due("undo()", x.undo(), 3);
        }
        due("count(13)", x.count(13), 4);
        due("undo()", x.undo(), -3);
        x.pass();
        x.terms(4, 0);
        due("count(5) behind a refused terms()", x.count(5), 1);
        x.mirror(0, 0, 0);
        due("count(5) behind a refused mirror()", x.count(5), 1);
        x.mirror(1, 0, 1);
        due("undo() behind mirror()", x.undo(), -3);
        x.pass();
        x.terms(2, 0);
        due("undo() behind terms()", x.undo(), -3);
        orders(x, "pass times 16");
        int night = x.count(13);
        orders(x, "pass times 20;down 5");
        for (int i = 0; i < 16; i++) {
            due("undo() behind orders that stopped", x.undo(), 3);
        }
        due("count(13)", x.count(13), night - 16);
        x.pass();
        orders(x, "pass times 20;down 5");
        due("count(5) behind orders that stopped", x.count(5), 1);
        due("undo()", x.undo(), 3);
    }

    private static void p24() {
        NightMirrors x = new NightMirrors();
        due("makes(1)", x.makes(1), 0);
        x.mirror(128, 0, 5);
        x.mirror(3, 5, 5);
        x.hang(1);
        x.hang(0);
        due("makes(1)", x.makes(1), 1 << 7);
        due("makes(2)", x.makes(2), 1 << 7);
        due("makes(3)", x.makes(3), 1 << 7 | 1 << 1);
        due("makes(4)", x.makes(4), 1 << 7 | 1);
        due("makes(8), HOURS being 6", x.makes(8), 1 << 7);
        due("makes(0)", x.makes(0), NONE);
        due("makes(9)", x.makes(9), NONE);
    }

    private static void p25() {
        NightMirrors x = new NightMirrors();
        due("whole(1, NONE)", x.whole(1, NONE), 0);
        due("whole(1, 0)", x.whole(1, 0), NONE);
        due("whole(0, NONE)", x.whole(0, NONE), NONE);
        due("whole(9, NONE)", x.whole(9, NONE), NONE);
        x.mirror(1, 0, 5);
        x.mirror(2, 0, 5);
        x.mirror(1, 0, 5);
        x.clock(0, 3);
        due("whole(2, NONE)", x.whole(2, NONE), 2);
        due("whole(2, 0)", x.whole(2, 0), 0);
        due("whole(2, 1)", x.whole(2, 1), 2);
        due("whole(2, 2)", x.whole(2, 2), NONE);
        due("whole(2, -2)", x.whole(2, -2), NONE);
        due("whole(3, NONE)", x.whole(3, NONE), 1);
        due("whole(1, NONE)", x.whole(1, NONE), NONE);
        law(x, "bars if mirror = 0 and place = 0");
        x.force(0);
        due("whole(2, 0), barred", x.whole(2, 0), 2);
        due("whole(2, 1), barred", x.whole(2, 1), 0);
        law(x, "wears 9;makes 0 if mirror = 1 and hour = 2");
        x.force(1);
        x.hang(0);
        x.pass();
        due("whole(2, NONE), no silver", x.whole(2, NONE), 2);
        due("whole(2, 0), no silver", x.whole(2, 0), 2);
        due("whole(2, 1), no silver", x.whole(2, 1), 1);
        x.clock(1, 1);
        due("whole(2, NONE), one more", x.whole(2, NONE), NONE);
    }

    private static void p26() {
        NightMirrors x = new NightMirrors();
        due("near(1)", x.near(1), 0);
        due("near(0)", x.near(0), NONE);
        due("near(9)", x.near(9), NONE);
        x.clock(0, 3);
        x.clock(7, 1);
        due("near(8) without mirrors", x.near(8), 4);
        x.mirror(1, 0, 1);
        due("near(1)", x.near(1), 3);
        due("near(2)", x.near(2), 2);
        due("near(3)", x.near(3), 1);
        due("near(4)", x.near(4), 2);
        due("near(8), none being nearest", x.near(8), 4);
        x.mirror(8, 0, 1);
        due("near(2), a second", x.near(2), 1);
        law(x, "bars if mirror = 1 and place = 1");
        x.force(0);
        due("near(2), barred", x.near(2), 2);
        x.hang(0);
        x.pass();
        due("near(2), no silver", x.near(1), 3);
        due("near(2), no silver", x.near(2), 4);
    }

    private static void p27() {
        NightMirrors x = new NightMirrors();
        int[][] bad = {{0, 0, 0}, {9, 0, 0}, {1, -1, 0}, {1, 8, 0}, {1, 0, -1}, {1, 0, 2}};
        for (int[] b : bad) {
            due("hear of wrong numbers", x.hear(b[0], b[1], b[2]), -1);
        }
        for (int i = 1; i <= 8; i++) {
            due("hear", x.hear(i, i - 1, i % 2), i);
        }
        due("hear, no room", x.hear(1, 1, 1), -5);
        due("hear, wrong and no room", x.hear(0, 1, 1), -1);
    }

    private static void p28() {
        NightMirrors x = new NightMirrors();
        due("forget()", x.forget(), 0);
        x.hear(1, 1, 1);
        x.hear(1, 1, 1);
        due("lines(0, NONE, 0)", x.lines(0, NONE, 0), 0);
        due("forget()", x.forget(), 2);
        due("count(3)", x.count(3), 0);
        due("lines(0, NONE, 0)", x.lines(0, NONE, 0), 1);
        due("hear", x.hear(1, 1, 0), 1);
    }

    private static void p29() {
        NightMirrors x = new NightMirrors();
        x.mirror(1, 0, 5);
        x.mirror(2, 0, 5);
        x.mirror(3, 0, 5);
        due("lines(3, NONE, 0)", x.lines(3, NONE, 0), 6);
        due("lines(4, NONE, 0)", x.lines(4, NONE, 0), 0);
        due("lines(6, NONE, 0)", x.lines(6, NONE, 0), 0);
        due("lines(7, NONE, 0)", x.lines(7, NONE, 0), NONE);
        due("lines(-1, NONE, 0)", x.lines(-1, NONE, 0), NONE);
        int[][] rows = {{0, 1}, {0, 2}, {1, 0}, {1, 2}, {2, 0}, {2, 1}};
        for (int i = 0; i < 6; i++) {
            due("lines(2, " + i + ", 0)", x.lines(2, i, 0), rows[i][0]);
            due("lines(2, " + i + ", 1)", x.lines(2, i, 1), rows[i][1]);
        }
        due("lines(2, 6, 0)", x.lines(2, 6, 0), NONE);
        due("lines(2, -2, 0)", x.lines(2, -2, 0), NONE);
        due("lines(2, 0, 2)", x.lines(2, 0, 2), NONE);
        due("lines(2, 0, -1)", x.lines(2, 0, -1), NONE);
        due("lines(0, NONE, 0)", x.lines(0, NONE, 0), 1);
        due("lines(0, 0, 0)", x.lines(0, 0, 0), NONE);
        x.hear(2, 1, 1);
        x.hear(1, 1, 0);
        due("lines(2, NONE, 0)", x.lines(2, NONE, 0), 2);
        due("lines(2, 1, 0)", x.lines(2, 1, 0), 2);
        due("lines(2, 1, 1)", x.lines(2, 1, 1), 1);
        law(x, "bars if mirror = 0 and place = 0");
        x.force(0);
        due("lines(2, NONE, 0), barred", x.lines(2, NONE, 0), 1);
        x.hear(8, 2, 0);
        due("lines(2, NONE, 0), no line", x.lines(2, NONE, 0), 0);
    }

    private static void p30() {
        NightMirrors x = new NightMirrors();
        due("listen(0, 0)", x.listen(0, 0), 1);
        due("listen(1, 0)", x.listen(1, 0), NONE);
        x.mirror(111, 0, 5);
        x.mirror(211, 0, 5);
        x.mirror(321, 0, 5);
        x.mirror(321, 0, 1);
        due("listen(1, 0)", x.listen(1, 0), 2);
        due("listen(1, 1)", x.listen(1, 1), 2);
        x.hear(2, 1, 0);
        due("listen(1, 0), 0 or 1", x.listen(1, 0), 3);
        due("listen(1, 1), 0 or 1", x.listen(1, 1), 1);
        x.hear(2, 0, 0);
        due("listen(1, 0), none", x.listen(1, 0), NONE);
        due("listen(7, 0)", x.listen(7, 0), NONE);
        NightMirrors y = under("makes part if hour < 8");
        for (int bend = 0; bend < 6; bend++) {
            y.mirror(1, bend, 5);
        }
        due("listen(1, 0), the last hour", y.listen(1, 0), 8);
        due("listen(1, 1), the last hour", y.listen(1, 1), 1);
        due("listen(6, 0)", y.listen(6, 0), 1);
        due("listen(6, 1)", y.listen(6, 1), 720);
        due("listen(-1, 0)", x.listen(-1, 0), NONE);
        due("listen(0, 2)", x.listen(0, 2), NONE);
        due("listen(0, -1)", x.listen(0, -1), NONE);
    }

    private static void p31() {
        NightMirrors x = new NightMirrors();
        x.mirror(1, 1, 5);
        x.mirror(1, 2, 5);
        due("face(0, 1, 0, 0)", x.face(0, 1, 0, 0), 0);
        due("face(0, 1, 0, 1)", x.face(0, 1, 0, 1), 8);
        due("face(0, 0, 7, 1)", x.face(0, 0, 7, 1), 4);
        NightMirrors y = under("makes part - 1 if mirror = 0 and hour = 1 and place = 0;makes part if mirror = 1");
        y.mirror(1, 3, 5);
        y.mirror(1, 3, 5);
        due("face(0, 1, 5, 0)", y.face(0, 1, 5, 0), 5);
        due("face(0, 1, 5, 1)", y.face(0, 1, 5, 1), 1);
        law(y, "makes 6 if part = 7;makes 7 if part = 6 and mirror = 1;makes 6 if part < 6 and mirror = 0");
        y.force(1);
        due("face(0, 1, 1, 0)", y.face(0, 1, 1, 0), 1);
        due("face(1, 0, 6, 0)", y.face(1, 0, 6, 0), 0);
        law(y, "makes part if hour = 1 and place = 0;makes 0 if hour > 1 or place > 0");
        y.force(2);
        due("face(0, 1, 5, 1), each at place 0 and hour 1", y.face(0, 1, 5, 0) * 10 + y.face(0, 1, 5, 1), 1);
        int[][] bad = {{2, 0, 0, 0}, {0, 2, 0, 0}, {-1, 0, 0, 0}, {0, -1, 0, 0}, {0, 1, 8, 0}, {0, 1, -1, 0},
            {0, 1, 0, 2}, {0, 1, 0, -1}};
        for (int[] b : bad) {
            due("face of wrong numbers", y.face(b[0], b[1], b[2], b[3]), NONE);
        }
    }

    private static void p32() {
        NightMirrors x = new NightMirrors();
        due("union(0)", x.union(0), NONE);
        for (int i = 0; i < 6; i++) {
            x.mirror(1, 0, 5);
        }
        x.crack(5, 3, 1);
        x.crack(3, 4, 1);
        x.crack(4, 0, 1);
        x.crack(0, 2, 1);
        due("union(5)", x.union(5), 0b111101);
        due("union(2)", x.union(2), 0b111101);
        due("union(1)", x.union(1), 0b10);
        x.crack(4, 3, 0);
        due("union(5)", x.union(5), 0b101000);
        due("union(4)", x.union(4), 0b10101);
        due("union(6)", x.union(6), NONE);
        due("union(-1)", x.union(-1), NONE);
    }

    private static void p33() {
        NightMirrors x = under("wears 2 - place if place < 2;wears 0 if night > 999 and mirror = 2");
        x.mirror(1, 0, 2);
        x.mirror(1, 0, 3);
        x.mirror(1, 0, 4);
        x.mirror(1, 0, 1);
        x.hang(0);
        x.hang(1);
        x.hang(2);
        due("ends(0)", x.ends(0), 0);
        due("ends(1)", x.ends(1), 1);
        due("ends(2)", x.ends(2), 0b11);
        due("ends(3), moved up", x.ends(3), 0b111);
        due("ends(60)", x.ends(60), 0b111);
        due("ends(61)", x.ends(61), NONE);
        due("ends(-1)", x.ends(-1), NONE);
        x.terms(0, 998);
        due("ends(60) beyond 999", x.ends(60), 0b11);
        due("count(13)", x.count(13), 998);
        x.pass();
        due("ends(0)", x.ends(0), 1);
    }

    private static void p34() {
        NightMirrors x = new NightMirrors();
        due("till()", x.till(), 0);
        x.clock(0, 3);
        due("till()", x.till(), NONE);
        x.mirror(12345, 0, 30);
        x.hang(0);
        x.terms(0, 999);
        due("till()", x.till(), 3);
        x.terms(3, 5);
        x.clock(0, 1);
        due("till()", x.till(), 1);
        x.terms(3, 4);
        due("till()", x.till(), NONE);
        NightMirrors y = under("makes 7;makes 1 if night = 29;wears 0");
        y.mirror(1, 0, 1);
        y.hang(0);
        y.clock(1, 1);
        due("till() in 30", y.till(), 30);
        law(y, "makes 7;makes 1 if night = 30;wears 0");
        y.force(1);
        due("till() in 31", y.till(), NONE);
        due("count(2)", y.count(2), 0);
    }

    private static void p35() {
        NightMirrors x = under("bars;makes part if night = 0");
        x.mirror(12, 0, 5);
        x.mirror(1212, 3, 5);
        x.mirror(121, 0, 5);
        x.mirror(12, 1, 5);
        due("twins(NONE)", x.twins(NONE), 3);
        due("twins(0)", x.twins(0), 1);
        due("twins(1)", x.twins(1), 3);
        due("twins(2)", x.twins(2), 13);
        due("twins(3)", x.twins(3), NONE);
        due("twins(-2)", x.twins(-2), NONE);
        x.force(NONE);
        due("twins(NONE)", x.twins(NONE), 0);
        for (int hour = 1; hour <= 8; hour++) {
            NightMirrors y = under("makes 0;makes mirror if hour = " + hour);
            y.mirror(1, 0, 1);
            y.mirror(1, 0, 1);
            due("twins(NONE) but for one hour", y.twins(NONE), 0);
        }
    }

    private static void p36() {
        NightMirrors x = new NightMirrors();
        due("lasts(0, 1)", x.lasts(0, 1), NONE);
        x.mirror(1, 0, 1);
        x.mirror(1, 0, 30);
        due("lasts(0, 0)", x.lasts(0, 0), 1000000000000L);
        due("lasts(0, 1)", x.lasts(0, 1), 700000000000L);
        due("lasts(0, 12)", x.lasts(0, 12), 13841287201L);
        due("lasts(0, 13), cut", x.lasts(0, 13), 9688901040L);
        due("lasts(1, 29)", x.lasts(1, 29) > 999999999000L ? 1 : 0, 1);
        due("lasts(1, 61)", x.lasts(1, 61), NONE);
        due("lasts(1, -1)", x.lasts(1, -1), NONE);
        due("lasts(2, 1)", x.lasts(2, 1), NONE);
        x.terms(1, 10);
        due("lasts(1, 29)", x.lasts(1, 29), 1000000000000L);
        due("lasts(1, 30)", x.lasts(1, 30), 0);
        x.terms(1, 0);
        due("lasts(0, 60)", x.lasts(0, 60), 1000000000000L);
        x.hang(0);
        x.pass();
        due("lasts(0, 0), no silver", x.lasts(0, 0), 0);
    }

    private static void p37() {
        NightMirrors x = under("pays 10;makes 5");
        x.mirror(1, 0, 9);
        x.mirror(2, 0, 9);
        due("wages(0) of none", x.wages(0), 0);
        x.hang(0);
        x.hang(1);
        due("wages(0)", x.wages(0), 110);
        due("wages(NONE)", x.wages(NONE), 11);
        law(x, "pays part * 3");
        due("wages(1), makes by that", x.wages(1), 15);
        x.terms(3, 1);
        due("wages(0)", x.wages(0), 10);
        due("wages(2)", x.wages(2), NONE);
        due("wages(-2)", x.wages(-2), NONE);
        due("count(12)", x.count(12), 0);
    }

    private static void p38() {
        NightMirrors x = new NightMirrors();
        due("years(-1, 1)", x.years(-1, 1), -1);
        due("years(1000001, 1)", x.years(1000001, 1), -1);
        due("years(0, 0)", x.years(0, 0), -1);
        due("years(0, 61)", x.years(0, 61), -1);
        due("years(0, 1)", x.years(0, 1), -3);
        x.mirror(2, 0, 30);
        // Of seed 29 the draws are 44332, 910397 (2 of 3), 177224, 489832 (1), 295421, 860733 (0).
        due("years(29, 1)", x.years(29, 1), 0);
        due("years(29, 2)", x.years(29, 2), 0);
        due("years(29, 3)", x.years(29, 3), 6);
        x.hang(0);
        due("years(29, 1), one hangs", x.years(29, 1), 6);
        due("years(29, 2)", x.years(29, 2), 6);
        due("years(29, 3)", x.years(29, 3), 12);
        due("nothing is done", x.count(2) + x.count(13), 0);
        x.terms(0, 998);
        due("years(0, 60), it ends", x.years(0, 60), 6);
        x.terms(0, 999);
        due("years(0, 60), it ends at once", x.years(0, 60), 0);
        due("drawn(1, 0)", x.drawn(1, 0), 0);
        due("years(1000000, 60)", x.years(1000000, 60), 0);
    }

    private static void p39() {
        NightMirrors x = new NightMirrors();
        x.mirror(2, 0, 30);
        due("drawn(0, 1) ahead of any", x.drawn(0, 1), NONE);
        x.years(29, 3);
        due("drawn(1, 0)", x.drawn(1, 0), 6);
        due("drawn(7, 0)", x.drawn(7, 0), 0);
        due("drawn(8, 0)", x.drawn(8, 0), NONE);
        due("drawn(-1, 0)", x.drawn(-1, 0), NONE);
        due("drawn(0, 1)", x.drawn(0, 1), 29);
        due("drawn(0, 2)", x.drawn(0, 2), 0);
        due("drawn(1, 1)", x.drawn(1, 1), NONE);
        due("drawn(0, 3)", x.drawn(0, 3), NONE);
        due("drawn(0, -1)", x.drawn(0, -1), NONE);
        x.years(0, 0);
        due("drawn(0, 1) behind a refused one", x.drawn(0, 1), 29);
        x.years(29, 2);
        due("drawn(0, 2)", x.drawn(0, 2), NONE);
        due("drawn(0, 1)", x.drawn(0, 1), 30);
        x.mirror(1, 0, 1);
        due("drawn(1, 1) of one that came later", x.drawn(1, 1), NONE);
    }

    private static void p40() {
        NightMirrors x = new NightMirrors();
        due("image(-1)", x.image(-1), -1);
        due("image(2)", x.image(2), -1);
        due("image(0)", x.image(0), 0);
        x.clock(0, 1);
        due("image(1)", x.image(1), 0);
        x.clock(0, 2);
        due("image(0) once more", x.image(0), 0);
        x.clock(0, 3);
        x.back(0);
        due("part(0, 1)", x.part(0, 1), 2);
        x.back(1);
        due("part(0, 1)", x.part(0, 1), 1);
        x.pass();
        x.image(0);
        due("undo() behind image()", x.undo(), 3);
    }

    private static void p41() {
        NightMirrors x = new NightMirrors();
        due("back(-1)", x.back(-1), -1);
        due("back(2)", x.back(2), -1);
        due("back(1)", x.back(1), -2);
        law(x, "pays 5");
        x.force(0);
        x.mirror(12, 1, 9);
        x.mirror(3, 0, 9);
        x.crack(0, 1, 1);
        x.hang(1);
        x.pass();
        x.clock(4, 2);
        x.hear(1, 2, 1);
        x.terms(1, 7);
        x.terms(2, 8);
        x.terms(3, 5);
        x.image(0);
        due("back(1)", x.back(1), -2);
        x.mirror(5, 0, 9);
        x.crack(0, 1, 0);
        x.hang(0);
        x.pass();
        x.clock(4, 0);
        x.forget();
        x.terms(1, 0);
        x.terms(2, 0);
        x.terms(3, 8);
        law(x, "pays 6");
        x.force(1);
        x.years(0, 5);
        int drawn = x.drawn(2, 1);
        orders(x, "hang 9");
        law(x, "??");
        say(x, "\u0009\u0009");
        x.row();
        say(x, "bars");
        int refused = x.count(9);
        x.pass();
        due("back(0)", x.back(0), 0);
        due("status()", x.status(), 0);
        int[] kept = {2, 1, 6, 1, 1, 0, 4};
        for (int what = 0; what < kept.length; what++) {
            due("count(" + what + ")", x.count(what), kept[what]);
        }
        int[] terms = {0, 1, 7, 8, 5};
        for (int i = 0; i < terms.length; i++) {
            due("count(" + (12 + i) + ")", x.count(12 + i), terms[i]);
        }
        due("count(9), not kept", x.count(9), refused);
        due("undo()", x.undo(), -3);
        due("part(4, 1)", x.part(4, 1), 2);
        due("part(2, 0)", x.part(2, 0), 6);
        due("part(0, 2)", x.part(0, 2), 5);
        due("of(1, 2)", x.of(1, 2), 8);
        due("at(0)", x.at(0), 1);
        due("union(0)", x.union(0), 3);
        due("lines(1, NONE, 0)", x.lines(1, NONE, 0), 2);
        due("fault(), not kept", x.fault(), 0);
        due("stopped(), not kept", x.stopped(), 0);
        due("screws(), not kept", x.screws(), 2);
        due("drawn(2, 1), not kept", x.drawn(2, 1), drawn);
        due("law() of the tape, not kept", x.law(), 1);
        x.force(1);
        due("back(0) once more", x.back(0), 0);
        due("count(4)", x.count(4), 1);
        due("a law in place of one gone", law(x, "pays 8"), 1);
        x.force(1);
        due("part(0, 2)", x.part(0, 2), 8);
        x.mirror(7, 3, 2);
        due("union(2), no crack is left", x.union(2), 4);
        NightMirrors y = new NightMirrors();
        y.image(0);
        law(y, "pays 3");
        y.image(1);
        y.back(0);
        law(y, "pays 4");
        y.back(1);
        y.force(0);
        due("a law as the image has it", y.part(0, 2), 3);
    }

    private static void p42() {
        NightMirrors x = new NightMirrors();
        x.mirror(1, 0, 9);
        x.mirror(0, 0, 9);
        x.hang(0);
        x.hang(0);
        x.hang(1);
        x.hang(2);
        x.pass();
        x.row();
        x.hear(1, 1, 1);
        law(x, "bars");
        law(x, "bar");
        x.force(0);
        for (int i = 0; i < 6; i++) {
            law(x, "bars");
        }
        x.feed(0, 0, 0, 0, 0);
        x.of(7, 7);
        x.end(-1);
        x.drawn(0, 0);
        x.terms(2, 4);
        x.down(0);
        int[] want = {1, 0, 6, 1, 6, 1, 20, 1, 2, 1, 1, 2, 0, 1, 3, 4, 6, NONE};
        for (int what = 0; what < want.length; what++) {
            due("count(" + what + ")", x.count(what), want[what]);
        }
        due("count(-1)", x.count(-1), NONE);
        due("count(least)", x.count(Integer.MIN_VALUE), NONE);
    }

    private static void p43() {
        NightMirrors x = new NightMirrors();
        int[] refused = {x.mirror(0, 0, 0), x.status(), x.crack(0, 1, 1), x.status(), x.clock(9, 0), x.status(),
            x.terms(9, 0), x.status(), x.row(), x.status(), x.force(5), x.status(), x.law(), x.status(),
            x.hang(0), x.status(), x.orders(), x.status(), x.down(0), x.status(), x.polish(0, 0), x.status(),
            x.undo(), x.status(), x.hear(0, 0, 0), x.status(), x.years(0, 1), x.status(), x.image(7), x.status(),
            x.back(0), x.status()};
        int[] by = {-1, -2, -1, -1, -6, -2, -6, -2, -6, -2, -1, -3, -1, -3, -1, -2};
        for (int i = 0; i < by.length; i++) {
            due("refused call " + i, refused[2 * i], by[i]);
            due("status() behind it", refused[2 * i + 1], by[i]);
        }
        x.forget();
        x.feed(0, 0, 0, 0, 0);
        x.end(0);
        x.of(0, 0);
        x.count(0);
        x.till();
        due("status() behind calls that it does not tell of", x.status(), -2);
        x.force(NONE);
        due("status() behind force()", x.status(), 0);
        x.terms(0, 999);
        x.pass();
        due("status() behind pass()", x.status(), -3);
    }

    private static void run(int n) {
        says("promise " + n);
        switch (n) {
            case 1: p1(); break;
            case 2: p2(); break;
            case 3: p3(); break;
            case 4: p4(); break;
            case 5: p5(); break;
            case 6: p6(); break;
            case 7: p7(); break;
            case 8: p8(); break;
            case 9: p9(); break;
            case 10: p10(); break;
            case 11: p11(); break;
            case 12: p12(); break;
            case 13: p13(); break;
            case 14: p14(); break;
            case 15: p15(); break;
            case 16: p16(); break;
            case 17: p17(); break;
            case 18: p18(); break;
            case 19: p19(); break;
            case 20: p20(); break;
            case 21: p21(); break;
            case 22: p22(); break;
            default: runLater(n); break;
        }
    }

    private static void runLater(int n) {
        switch (n) {
            case 23: p23(); break;
            case 24: p24(); break;
            case 25: p25(); break;
            case 26: p26(); break;
            case 27: p27(); break;
            case 28: p28(); break;
            case 29: p29(); break;
            case 30: p30(); break;
            case 31: p31(); break;
            case 32: p32(); break;
            case 33: p33(); break;
            case 34: p34(); break;
            case 35: p35(); break;
            case 36: p36(); break;
            case 37: p37(); break;
            case 38: p38(); break;
            case 39: p39(); break;
            case 40: p40(); break;
            case 41: p41(); break;
            case 42: p42(); break;
            default: p43(); break;
        }
    }

    public static void main(String[] args) {
        for (int n = 1; n <= 43; n++) {
            run(n);
        }
        finish("promises");
    }
}
