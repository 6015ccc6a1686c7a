/** Terms II: tokens, both languages and what they tell, at the last that can be and at the first that can't. */
public final class TextsBoundsTest extends Dues {
    private static final String BILLION = "1000*1000*1000";

    private static void rowsOfLetters() {
        says("TOKENS: longest rows of letters a .. z, of digits, single other bytes");
        good("pays 1if 1=1or 2=2and not 3=3;bars");
        good("pays[1]if(1=1)or not(2=2)and 3=3");
        good("wears12if1=1");
        faulty(true, "makesz 1", 0);
        faulty(true, "zmakes 1", 0);
        faulty(true, "wears moodmood", 6);
        faulty(true, "bars ifnot 1=1", 5);
        faulty(true, "wears 1 2", 8);
        faulty(true, "wears 12mood", 8);
        faulty(true, "wears mood12", 10);
        faulty(true, "mak es 1", 0);
        faulty(true, "bars if 1==1", 10);
        faulty(true, "bars if 1<=1", 10);
        faulty(true, "wears 1**1", 8);
        sum("12", 12);
        sum("1 + 2", 3);
    }

    /** What follows "wears " and "wears 1" can be any of the 256 bytes. */
    private static void singleBytes() {
        says("single other bytes, any blanks (32) between");
        for (int b = 0; b < 256; b++) {
            String one = String.valueOf((char) b);
            boolean digit = b >= '0' && b <= '9';
            if (digit) {
                good("wears " + one);
                good("wears 1" + one);
                continue;
            }
            faulty(true, "wears " + one, b == ' ' || b == '[' ? 7 : 6);
            faulty(true, one + "wears", b == ' ' ? 6 : 0);
            if (b == ' ') {
                good("wears 1" + one);
            } else {
                faulty(true, "wears 1" + one, ";+-*/%".indexOf(b) >= 0 ? 8 : 7);
                faulty(true, "wears" + one + "1", b == '[' ? 7 : b >= 'a' && b <= 'z' ? 0 : 5);
            }
        }
    }

    private static void blanks() {
        says("any blanks (32) between; TEXTS are on a TAPE of at most 400 bytes");
        good("bars" + times(" ", 396));
        good(times(" ", 396) + "bars");
        NightMirrors x = under("pays" + times(" ", 394) + "68");
        due("part(0, 2), up to the 400th byte", x.part(0, 2), 68);
        faulty(true, "pays 5" + times(" ", 393) + "0", 399);
        faulty(true, "pays" + times(" ", 396), 400);
        says("-6 (blanks alone: FAULT at the end)");
        for (int n : new int[] {0, 1, 19, 20, 21, 399, 400}) {
            faulty(true, times(" ", n), n);
            faulty(false, times(" ", n), n);
        }
    }

    private static void clauses() {
        says("CLAUSE {\";\" CLAUSE}, 12 at most (FAULT at the 13th's first TOKEN)");
        String twelve = "bars" + times(";bars", 11);
        good(twelve);
        good(twelve + " ");
        faulty(true, twelve + ";bars", 60);
        faulty(true, twelve + ";   bars if 1=1", 63);
        faulty(true, twelve + ";bars;bars", 60);
        faulty(true, twelve + ";?", 60);
        faulty(true, twelve + ";", 60);
        faulty(true, twelve + ";;", 60);
        String passes = "pass" + times(";pass", 11);
        due("twelve orders", orders(new NightMirrors(), passes), 12);
        faulty(false, passes + ";pass", 60);
        faulty(false, passes + "; pass", 61);
        faulty(false, passes + ";", 60);
        faulty(true, ";", 0);
        faulty(true, "bars;;bars", 5);
        faulty(true, "bars bars", 5);
        faulty(true, "bars,bars", 4);
        // The twelfth is asked like any other.
        NightMirrors x = under("pays 1" + times(";pays 1", 10) + ";pays 50");
        due("the twelfth", x.part(0, 2), 50);
    }

    private static void numbers() {
        says("NUMBER (to 1,000)");
        good("wears 0");
        good("wears 1000");
        faulty(true, "wears 1001", 6);
        faulty(true, "wears 9999", 6);
        faulty(true, "wears 10000", 6);
        faulty(true, "wears 2147483648", 6);
        faulty(true, "wears 4294967296", 6);
        faulty(true, "wears 18446744073709551616", 6);
        faulty(true, "wears " + times("9", 394), 6);
        faulty(true, "bars if 1001 = 1", 8);
        faulty(true, "bars if 1 = 1001", 12);
        faulty(true, "bars if [1+1001] = 1", 11);
        faulty(false, "hang 1001", 5);
        goodOrders("hang 1000");
        test("1000 = 999 + 1", true);
        test("0 = 1 - 1", true);
    }

    private static void fiftyParts() {
        says("50 PARTS that are NUMBERS and words (FAULT at the 51st)");
        good("wears 1" + times("+1", 49));
        faulty(true, "wears 1" + times("+1", 49) + "+1", 106);
        good("wears 1" + times("*hour", 49));
        faulty(true, "wears 1" + times("*hour", 49) + "*hour", 253);
        faulty(true, "wears 1" + times("+1", 49) + "+ [part]", 108);
        faulty(true, "wears 1" + times("+1", 49) + "+[[1]]", 108);
        good("wears[[1]]" + times("+[1]", 49));
        good("bars if 1" + times("+1", 23) + "=1" + times("+1", 23) + " and 1=1");
        faulty(true, "bars if 1" + times("+1", 23) + "=1" + times("+1", 23) + " and 1=1 or 1=1", 115);
        String fiftieth = times("wears 1;", 11) + "wears 1" + times("+1", 38);
        good(fiftieth);
        faulty(true, fiftieth + "+1", fiftieth.length() + 1);
        says("M, P, TIMES aside, NUMBERS and words count as PARTS");
        String many = "hang 0" + times("+stock 7", 24) + times("+silver 5", 15) + times("+0", 10);
        goodOrders(many);
        goodOrders(many + " times 20");
        faulty(false, many + "+0", many.length() + 1);
        faulty(false, many + "+done", many.length() + 1);
        faulty(false, many + "+stock 7", many.length() + 1);
        faulty(false, many + "+silver 9", many.length() + 1);
        faulty(false, many + " times 20 if hung=1", many.length() + 13);
        goodOrders("polish 1" + times("+1", 24) + " by 1" + times("+1", 24));
        faulty(false, "polish 1" + times("+1", 24) + " by 1" + times("+1", 24) + "+1", 110);
        manyTexts();
    }

    /** What one text has is not counted for the next one. */
    private static void manyTexts() {
        NightMirrors x = glasses(1);
        String sum = "1" + times("+1", 46);
        for (int i = 0; i < 6; i++) {
            due("law " + i + " of fifty", law(x, "pays " + sum + "+" + i + " if mood=" + i), i);
        }
        for (int i = 0; i < 20; i++) {
            due("orders " + i + " of fifty", orders(x, "pass times 2 if " + sum + "=night+0+" + (47 - 2 * i)), 1);
            x.undo();
            due("orders " + i + " of fifty", orders(x, "pass times 2 if 0+" + sum + "<48+night"), 2);
        }
        for (int i = 0; i < 6; i++) {
            x.force(i);
            x.terms(2, i);
            due("law " + i + " as it was read", x.part(0, 2), 47 + i);
        }
    }

    private static void brackets() {
        says("8 brackets of both kinds within one another (FAULT at the 9th)");
        good("wears" + times("[", 8) + "1" + times("]", 8));
        faulty(true, "wears" + times("[", 9) + "1" + times("]", 9), 13);
        faulty(true, "wears" + times("[", 9), 13);
        faulty(true, "wears" + times("[", 8), 13);
        good("bars if" + times("(", 8) + "1=1" + times(")", 8));
        faulty(true, "bars if" + times("(", 9) + "1=1" + times(")", 9), 15);
        for (int round = 0; round <= 8; round++) {
            String open = "bars if" + times("(", round) + times("[", 8 - round);
            String close = times("]", 8 - round) + "=1" + times(")", round);
            good(open + "1" + close);
            faulty(true, open + "[1]" + close, 15);
            String right = times("]", 8 - round) + times(")", round);
            good("bars if" + times("(", round) + "1=" + times("[", 8 - round) + "1" + right);
            faulty(true, "bars if" + times("(", round) + "1=" + times("[", 9 - round) + "1", 17);
        }
        String eight = times("[", 8) + "1" + times("]", 8);
        good("wears " + eight + "+" + eight + "*" + eight + ";pays " + eight + " if " + eight + "=" + eight);
        good("bars if (((((((1=1)))))or((((1=1))))))and((((((((1=1))))))))");
        good("bars if not(not(not(not(not(not(not(not 1=1)))))))");
        good("bars if (((((((not(1=1))))))))");
        faulty(true, "bars if ((((((((not(1=1)))))))))", 19);
        goodOrders("polish " + eight + " by " + eight + " times 2 if " + eight + "=1");
        faulty(false, "polish " + eight + " by [" + eight + "]", 36);
    }

    private static void faults() {
        says("FAULT: the first TOKEN that can't go on there (the end's: the TEXT's length)");
        String[] cut = {"makes", "makes 1+", "makes [", "makes [1", "pays 1 if", "pays 1 if 1", "pays 1 if 1=",
            "pays 1 if (", "pays 1 if (1=1", "pays 1 if not", "pays 1 if 1=1 and", "pays 1 if 1=1 or", "bars if",
            "bars;"};
        for (String text : cut) {
            faulty(true, text, text.length());
            faulty(true, text + "  ", text.length() + 2);
            String wrong = text + " ?";
            faulty(true, wrong, wrong.length() - 1);
        }
        String[] cutOrders = {"hang", "down", "polish", "polish 1", "polish 1 by", "hang 1 times", "pass times",
            "pass if", "hang silver", "hang stock", "pass if 1", "pass;"};
        for (String text : cutOrders) {
            faulty(false, text, text.length());
            faulty(false, text + "   ", text.length() + 3);
            String wrong = text + " !";
            faulty(false, wrong, wrong.length() - 1);
        }
        faulty(true, "pass", 0);
        faulty(true, "pays", 4);
        faulty(false, "makes 1", 0);
        faulty(true, "bars mood", 5);
        faulty(true, "pays 1 times 2", 7);
        faulty(true, "pays 1 if 1=1 times 2", 14);
        faulty(true, "pays stock 1", 5);
        faulty(true, "pays done", 5);
        faulty(true, "pays silver 1", 12);
        faulty(false, "hang mirror", 5);
        faulty(false, "hang place", 5);
        faulty(false, "hang hour", 5);
        faulty(false, "hang part", 5);
        faulty(false, "hang bend", 5);
        faulty(false, "hang mood", 5);
        faulty(false, "hang 1 by 2", 7);
        faulty(false, "pass by 2", 5);
        faulty(false, "polish 1 times 2 by 3", 9);
        faulty(false, "pass if 1=1 times 2", 12);
        faulty(false, "pass times 2 times 2", 13);
        faulty(false, "pass if 1=1 if 1=1", 12);
    }

    private static void timesMAndP() {
        says("TIMES: a NUMBER 1 .. 20");
        faulty(false, "pass times 0", 11);
        faulty(false, "pass times 21", 11);
        faulty(false, "pass times 1000", 11);
        faulty(false, "pass times [1]", 11);
        faulty(false, "pass times 1+1", 12);
        due("once without", orders(new NightMirrors(), "pass"), 1);
        due("times 1", orders(new NightMirrors(), "pass times 1"), 1);
        due("times 20", orders(new NightMirrors(), "pass times 20"), 20);
        due("twelve times 20", orders(new NightMirrors(), "pass times 20" + times(";pass times 20", 11)), 240);
        says("M: a NUMBER 0 .. 5, P: 0 .. 7");
        for (int k = 0; k <= 5; k++) {
            due("silver " + k, orders(glasses(k + 1), "pass if silver " + k + " = 30"), 1);
            due("silver " + k + " without it", orders(glasses(k), "pass if silver " + k + " = 0-1"), 1);
        }
        faulty(false, "pass if silver 6 = 1", 15);
        faulty(false, "pass if silver hung = 1", 15);
        faulty(false, "pass if silver [1] = 1", 15);
        for (int k = 0; k <= 7; k++) {
            NightMirrors x = new NightMirrors();
            x.mirror(k + 1, 0, 30);
            due("stock " + k, orders(x, "hang 0;pass;pass if stock " + k + " = 6"), 3);
            int other = (k + 1) % 8;
            due("stock " + other, orders(x, "pass if stock " + other + " = 0"), 1);
        }
        faulty(false, "pass if stock 8 = 1", 14);
        faulty(false, "pass if stock done = 1", 14);
    }

    private static void billion() {
        says("Beyond 1,000,000,000 either way ... a SUM, a TEST is BROKEN");
        sum(BILLION + "/1000/1000/100", 10);
        sum(BILLION + "-" + BILLION + "+5", 5);
        sum(BILLION + "+1-" + BILLION, 77);
        sum("1+" + BILLION + "-" + BILLION, 77);
        sum("0+" + BILLION + "-" + BILLION, 0);
        sum("[" + BILLION + "-1]+1-" + BILLION + "+3", 3);
        sum("[" + BILLION + "-1]+2-" + BILLION + "+3", 77);
        sum("0-" + BILLION + "+" + BILLION + "+4", 4);
        sum("0-" + BILLION + "-1+" + BILLION, 77);
        sum("0-1-" + BILLION + "+" + BILLION, 77);
        sum("[0-" + BILLION + "+1]-1+" + BILLION + "+6", 6);
        sum("[0-" + BILLION + "+1]-2+" + BILLION + "+6", 77);
        sum("[" + BILLION + "/2]*2/1000/1000/100", 10);
        sum("[" + BILLION + "/2+1]*2/1000/1000/100", 77);
        sum("[0-" + BILLION + "/2]*2/1000/1000/100+20", 10);
        sum("[0-" + BILLION + "/2-1]*2/1000/1000/100+20", 77);
        sum("[" + BILLION + "]*[0-1]/1000/1000/100+20", 10);
        sum("[0-" + BILLION + "]*[0-1]/1000/1000/100", 10);
        sum(BILLION + "*1/1000/1000/100", 10);
        sum(BILLION + "*2*0", 77);
        sum(BILLION + "*1000*1000*1000*0", 77);
        sum("[" + BILLION + "]*[" + BILLION + "]", 77);
        sum("0-[" + BILLION + "]*[" + BILLION + "]", 77);
        test(BILLION + "=" + BILLION, true);
        test(BILLION + ">" + BILLION + "-1", true);
        test("0-" + BILLION + "<" + BILLION, true);
        brokenTest(BILLION + "+1>0");
        brokenTest("0<" + BILLION + "+1");
        brokenTest("0-" + BILLION + "-1<0");
        brokenTest("0=0-" + BILLION + "-1");
    }

    private static void division() {
        says("divided by 0 (/ cut towards 0, % what is left then)");
        sum("7/0", 77);
        sum("0/0", 77);
        sum("7%0", 77);
        sum("0%0", 77);
        sum("7/[2-2]*0", 77);
        sum("7%[2-2]*0", 77);
        sum("0/[1-1]", 77);
        brokenTest("7/0=0");
        brokenTest("0=7%0");
        sum("0/7", 0);
        sum("0%7", 0);
        sum("6/7", 0);
        sum("7/7", 1);
        sum("7%7", 0);
        sum("8%7", 1);
        sum("13/7", 1);
        sum("14/7", 2);
        int[][] by = {{7, 2}, {-7, 2}, {7, -2}, {-7, -2}, {1, 2}, {-1, 2}, {1, -2}, {-1, -2}, {6, 3}, {-6, 3}};
        for (int[] two : by) {
            String one = "[" + (two[0] < 0 ? "0-" + -two[0] : two[0]) + "]";
            String other = "[" + (two[1] < 0 ? "0-" + -two[1] : two[1]) + "]";
            sum("50+" + one + "/" + other, 50 + two[0] / two[1]);
            sum("50+" + one + "%" + other, 50 + two[0] % two[1]);
        }
        sum("[0-" + BILLION + "]/[0-1]/1000/1000/100", 10);
        sum(BILLION + "%[" + BILLION + "]", 0);
        sum("5+1%[" + BILLION + "]", 6);
    }

    private static void orAnd() {
        says("\"or\", \"and\" ask what stands behind only if it can still matter");
        String broken = "1/0=1";
        String so = "1=1";
        String not = "1=2";
        test(so + " or " + broken, true);
        brokenTest(not + " or " + broken);
        brokenTest(broken + " or " + so);
        brokenTest(broken + " or " + not);
        brokenTest(broken + " and " + so);
        brokenTest(broken + " and " + not);
        brokenTest(so + " and " + broken);
        test("not (" + not + " and " + broken + ")", true);
        test(not + " or " + so + " or " + broken, true);
        brokenTest(not + " or " + broken + " or " + so);
        test("not (" + so + " and " + not + " and " + broken + ")", true);
        brokenTest(so + " and " + broken + " and " + not);
        test(not + " and " + broken + " or " + so, true);
        test("not (" + not + " and " + broken + " or " + not + ")", true);
        test("not (" + not + " and " + broken + " and " + broken + " or " + not + ")", true);
        brokenTest(not + " and " + broken + " or " + broken);
        test(so + " or " + broken + " and " + broken, true);
        test(so + " or " + broken + " and " + broken + " or " + broken, true);
        test(so + " and " + so + " or " + broken + " and " + broken, true);
        brokenTest("(" + so + " or " + broken + ") and " + broken);
        test("(" + so + " or " + broken + ") and " + so, true);
        test("not ((" + not + " and " + broken + ") or " + not + ")", true);
        test("not (" + so + " or " + broken + ")", false);
        test("not " + not + " or " + broken, true);
        test(so + " or not " + broken, true);
        brokenTest("not " + broken);
        brokenTest("not not " + broken);
        // Of the three, "and" holds nearest, then "or"; "not" takes the next plain alone.
        test(so + " or " + so + " and " + not, true);
        test(not + " and " + so + " or " + so, true);
        test("not " + so + " or " + so, true);
        test("not " + so + " and " + not, false);
        test("not (" + so + " and " + not + ")", true);
        String[] all = {"1=1", "1<2", "2>1", "not 1=2", "(1=1)", "1=2 or 1=1"};
        String[] none = {"1=2", "2=1", "2<1", "1<1", "1>2", "1>1", "not 1=1", "(1=2)", "not 1<2", "1=1 and 1=2"};
        for (String one : all) {
            test("(" + one + ") and 1=1", true);
            test("(" + one + ") and 1=2", false);
            test("(" + one + ") or 1=2", true);
            test("not (" + one + ")", false);
            test("not (not (" + one + "))", true);
            test("not not (" + one + ")", true);
        }
        for (String one : none) {
            test("(" + one + ") and 1=1", false);
            test("(" + one + ") or 1=1", true);
            test("(" + one + ") or 1=2", false);
            test("not (" + one + ")", true);
            test("not (not (" + one + "))", false);
            test("not not not (" + one + ")", true);
        }
    }

    private static void sums() {
        says("SUM: TERM {(\"+\" | \"-\") TERM}. TERM: PART {(\"*\" | \"/\" | \"%\") PART}");
        sum("9-3-2", 4);
        sum("9-[3-2]", 8);
        sum("9-3+2", 8);
        sum("2+3*4", 14);
        sum("2*3+4", 10);
        sum("[2+3]*4", 20);
        sum("60/6*2", 20);
        sum("60/[6*2]", 5);
        sum("7*5%4", 3);
        sum("7*[5%4]", 7);
        sum("90/4%4", 2);
        sum("1+2*3%4-5/2+6", 7);
        test("2<2", false);
        test("1<2", true);
        test("3<2", false);
        test("2>2", false);
        test("3>2", true);
        test("1>2", false);
        test("2=2", true);
        test("1=2", false);
        test("3=2", false);
        test("0-1<0", true);
        test("0>0-1", true);
    }

    /** What the clauses tell of mirror 0 (saw part 3, bend 6, silver 20) at place 0 and hour 1, under a law. */
    private static void lawTells(String law, int makes, int wears, int pays, int bars) {
        NightMirrors x = under(law);
        x.mirror(4, 6, 20);
        due(law + ", makes", x.asks(0, 0, 1, 0), makes);
        due(law + ", wears", x.of(0, 4), wears);
        due(law + ", pays", x.part(3, 2), pays);
        due(law + ", bars", x.asks(0, 0, 1, 1), bars);
    }

    private static void holds() {
        says("A CLAUSE HOLDS, if its \"if\" is so, and neither that nor its SUM is BROKEN");
        lawTells("makes 5;wears 5;pays 5;bars", 5, 5, 5, 1);
        lawTells("makes 5 if 1=1;wears 5 if 1=1;pays 5 if 1=1;bars if 1=1", 5, 5, 5, 1);
        lawTells("makes 5 if 1=2;wears 5 if 1=2;pays 5 if 1=2;bars if 1=2", 1, 1, 1, 0);
        lawTells("makes 5 if 1/0=1;wears 5 if 1/0=1;pays 5 if 1/0=1;bars if 1/0=1", 1, 1, 1, 0);
        lawTells("makes 5/0;wears 5/0;pays 5/0", 1, 1, 1, 0);
        lawTells("makes 5/0 if 1=1;wears 5/0 if 1=1;pays 5/0 if 1=1", 1, 1, 1, 0);
        lawTells("makes 5;makes 6/0;makes 7 if 1/0=0;makes 4 if 1=2", 5, 1, 1, 0);
        lawTells("wears 5;wears 6/0;wears 7 if 1/0=0;wears 4 if 1=2", 1, 5, 1, 0);
        lawTells("pays 5;pays 6/0;pays 7 if 1/0=0;pays 4 if 1=2", 1, 1, 5, 0);
        lawTells("bars;bars if 1=2;bars if 1/0=0", 1, 1, 1, 1);
        lawTells("bars if 1=2;bars;bars if 1/0=0", 1, 1, 1, 1);
        says("the last \"makes\" that HOLDS");
        lawTells("makes 2;makes 4;wears 2;wears 4;pays 2;pays 4", 4, 4, 4, 0);
        lawTells("makes 4;wears 8;makes 2;pays 3;wears 7", 2, 7, 3, 0);
    }

    private static void nearest() {
        says("the PART 0 .. 7 that the last \"makes\" tells (else the nearest)");
        int[] told = {-1000, -2, -1, 0, 1, 6, 7, 8, 9, 10, 98, 99, 100, 1000};
        says("SILVER WEARS by 0 .. 9 a NIGHT; a PART is PAID 0 .. 99");
        for (int value : told) {
            String text = value < 0 ? "0-" + -value : "" + value;
            lawTells("makes " + text + ";wears " + text + ";pays " + text, Math.max(0, Math.min(7, value)),
                Math.max(0, Math.min(9, value)), Math.max(0, Math.min(99, value)), 0);
        }
        lawTells("makes " + BILLION + ";wears " + BILLION + ";pays " + BILLION, 7, 9, 99, 0);
        String low = "0-" + BILLION;
        lawTells("makes " + low + ";wears " + low + ";pays " + low, 0, 0, 0, 0);
        says("without PART and BEND modulo 8");
        for (int part = 0; part < 8; part++) {
            for (int bend = 0; bend < 8; bend++) {
                NightMirrors x = new NightMirrors();
                x.mirror(part + 1, bend, 1);
                due("part " + part + ", bend " + bend, x.asks(0, 0, 1, 0), (part + bend) % 8);
            }
        }
    }

    /** Whether a test is so of the one that a clause is asked of; the wage tells it of a part. */
    private static void words() {
        String nothing = "=0-1";
        says("\"makes\" is asked of a MIRROR at a PLACE, an HOUR and a PART it saw");
        NightMirrors x = under("makes 0;makes 1 if mirror=5 and place=4 and hour=7 and part=6 and bend=3 and silver=30 "
            + "and night=999 and mood=9");
        for (int i = 0; i < 5; i++) {
            x.mirror(1, 0, 1);
        }
        x.mirror(781, 3, 30);
        x.terms(0, 999);
        x.terms(2, 9);
        for (int place = 0; place < 6; place++) {
            for (int hour = place + 1; hour <= 8; hour++) {
                int want = place == 4 && hour == 7 ? 1 : 0;
                due("asks(5, " + place + ", " + hour + ", 0)", x.asks(5, place, hour, 0), want);
            }
        }
        due("asks of another mirror", x.asks(4, 4, 7, 0), 0);
        says("\"wears\" of a MIRROR (place: where it hangs, -1: nowhere; hour, part -1)");
        NightMirrors w = under("wears 2;wears 3 if hour" + nothing + " and part" + nothing + " and place" + nothing
            + " and bend=7 and silver=30;wears 4+place if hour" + nothing + " and part" + nothing + " and place>0-1");
        for (int i = 0; i < 6; i++) {
            w.mirror(1, 7, 30);
            due("of(" + i + ", 4), nowhere", w.of(i, 4), 3);
        }
        hangAll(w);
        for (int i = 0; i < 6; i++) {
            due("of(" + i + ", 4) at its place", w.of(i, 4), 4 + i);
        }
        says("\"pays\" of a PART (mirror, place, bend, silver, hour -1)");
        NightMirrors p = under("pays 0;pays 5+part if mirror" + nothing + " and place" + nothing + " and bend"
            + nothing + " and silver" + nothing + " and hour" + nothing + " and night=998 and mood=8");
        p.terms(0, 998);
        p.terms(2, 8);
        hangAll(addGlasses(p, 6));
        for (int part = 0; part < 8; part++) {
            due("part(" + part + ", 2)", p.part(part, 2), 5 + part);
        }
        due("wages(0)", p.wages(0), 6 * 5 + 5 * 6 + 4 * 7 + 3 * 8 + 2 * 9 + 10);
        says("\"bars\" of a MIRROR and a PLACE (hour, part -1)");
        NightMirrors b = under("bars if mirror=5 and place=5 and hour" + nothing + " and part" + nothing
            + " and bend=0 and silver=30");
        addGlasses(b, 6);
        for (int mirror = 0; mirror < 6; mirror++) {
            for (int place = 0; place < 6; place++) {
                int want = mirror == 5 && place == 5 ? 1 : 0;
                due("asks(" + mirror + ", " + place + ", 8, 1)", b.asks(mirror, place, 8, 1), want);
            }
        }
        due("hang 0 to 4", orders(b, "hang hung times 5"), 5);
        due("hang(5)", b.hang(5), -3);
        due("down(0)", b.down(0), 0);
        due("hang(5)", b.hang(5), 4);
    }

    private static void orderWords() {
        says("done: how many were run in this TEXT");
        due("done from 0", orders(new NightMirrors(),
            "pass if done=0;pass if done=1;pass if done=3;pass if done=2"), 3);
        due("done up to 239", orders(new NightMirrors(),
            "pass times 20" + times(";pass times 20", 10) + ";pass times 20 if not done=239"), 239);
        NightMirrors x = new NightMirrors();
        orders(x, "pass");
        due("done in this text alone", orders(x, "pass if done=0"), 1);
        says("latest: how many PARTS were made in the latest NIGHT passed in it (-1: none)");
        NightMirrors y = hangAll(glasses(6));
        due("pass()", y.pass(), 21);
        due("none in this one", orders(y, "down 0 if not latest=0-1;pass if latest=0-1;pass if latest=21"), 2);
        due("none is made", orders(y, "down 5-done times 6;pass;pass if latest=0"), 8);
        due("99 cuts off, too", orders(glasses(1),
            "hang 0;pass times 20 if stock 0<99;pass if latest=6 and stock 0=99"), 1 + 17 + 1);
        says("hung: how many hang");
        due("0 .. 6", orders(glasses(6), "hang hung times 6;pass if hung=6;down 6-hung times 6;pass if hung=0"), 14);
        says("night: the NIGHT");
        NightMirrors z = new NightMirrors();
        z.terms(0, 998);
        due("night", orders(z, "pass if night=998;pass if night=998"), 1);
        due("count(13)", z.count(13), 999);
        due("night at the last", orders(z, "pass if night<999"), 0);
    }

    private static void ordersRun() {
        says("each time its \"if\" is asked (not run, if it is not so or BROKEN), then its SUMS from the left");
        due("asked each time", orders(new NightMirrors(), "pass times 20 if night<7"), 7);
        due("so only later", orders(new NightMirrors(), "pass times 20 if done=1;pass;pass times 20 if done<4"), 4);
        due("broken", orders(new NightMirrors(), "pass if 1/0=0"), 0);
        due("broken at times", orders(new NightMirrors(),
            "pass;pass times 3 if 1/night>0;pass times 9 if 9/[4-night]>0"), 4);
        due("what it does not run can be nothing", orders(new NightMirrors(),
            "hang 9/0 if 1=2;polish 9 by 99 if 1/0=1"), 0);
        says("One that can't be ends it: all is as it was ahead of it. Which CLAUSE .. could not be");
        String[] bad = {"hang 1/0", "hang 6", "hang 0-1", "hang 5", "down 6", "down 4", "down 1/0", "polish 6 by 1",
            "polish 0 by 0", "polish 0 by 31", "polish 0 by 1/0", "polish 1/0 by 1", "polish 0 by 1 times 4"};
        for (String one : bad) {
            for (int ahead = 0; ahead <= 11; ahead++) {
                stops(times("pass if 1=2;", ahead) + one, ahead);
            }
        }
        stops("pass times 20;hang 4;polish 4 by 2;down 5;hang 0;hang 4", 5);
        stops("pass times 20;polish 1 by 30 times 4", 1);
        NightMirrors last = new NightMirrors();
        last.terms(0, 990);
        due("up to the last night", orders(last, "pass times 10"), -3);
        due("stopped()", last.stopped(), 0);
        due("count(13)", last.count(13), 990);
        due("count(5)", last.count(5), 0);
        due("up to the last night", orders(last, "pass times 9"), 9);
        due("count(13)", last.count(13), 999);
    }

    /** On an object with one that hangs, one that does not, three in stock of part 0. */
    private static void stops(String text, int at) {
        NightMirrors x = new NightMirrors();
        addGlasses(x, 6);
        x.terms(3, 3);
        x.hang(0);
        x.pass();
        x.down(0);
        x.hang(5);
        due(text, orders(x, text), -3);
        due("stopped() of " + text, x.stopped(), at);
        due("status()", x.status(), -3);
        due("fault()", x.fault(), NONE);
        stocks(text, x, 3, 0, 0, 0, 0, 0, 0, 0);
        line(text, x, 5);
        for (int mirror = 0; mirror < 6; mirror++) {
            due("of(" + mirror + ", 2)", x.of(mirror, 2), mirror == 0 ? 29 : 30);
        }
        due("count(13)", x.count(13), 1);
        due("count(9)", x.count(9), 1);
        due("count(6)", x.count(6), 0);
        int[] undone = {0, 1, 3, 0};
        for (int i = 0; i < 4; i++) {
            due("count(5)", x.count(5), 4 - i);
            due("undo()", x.undo(), undone[i]);
        }
        due("undo()", x.undo(), -3);
    }

    private static void faultsTold() {
        says("FAULT of the latest law(), orders() that read a TEXT: its place; NONE without");
        NightMirrors x = new NightMirrors();
        due("ahead of any", x.fault(), NONE);
        law(x, "bars 1");
        due("of law()", x.fault(), 5);
        x.row();
        due("row() reads none", x.fault(), 5);
        orders(x, "?");
        due("of orders()", x.fault(), 0);
        due("of an empty one", x.orders(), -6);
        due("of an empty one", x.fault(), 0);
        for (int i = 0; i < 6; i++) {
            law(x, "bars");
            due("without", x.fault(), NONE);
        }
        law(x, "bars 1");
        due("a law that was not read", x.fault(), NONE);
        orders(x, "pass 1");
        law(x, "bars");
        due("a law that was not read", x.fault(), 5);
        orders(x, "down 0");
        due("of orders that stopped", x.fault(), NONE);
        says("Which CLAUSE of the latest orders() could not be. NONE.");
        NightMirrors y = new NightMirrors();
        due("ahead of any", y.stopped(), NONE);
        orders(y, "pass" + times(";pass", 10) + ";down 0");
        due("the last one", y.stopped(), 11);
        law(y, "bars");
        due("behind law()", y.stopped(), 11);
        orders(y, "down 0");
        due("the first one", y.stopped(), 0);
        orders(y, "pass");
        due("none", y.stopped(), NONE);
        orders(y, "down 0");
        y.orders();
        due("behind one that can't be read", y.stopped(), NONE);
    }

    public static void main(String[] args) {
        rowsOfLetters();
        singleBytes();
        blanks();
        clauses();
        numbers();
        fiftyParts();
        brackets();
        faults();
        timesMAndP();
        billion();
        division();
        orAnd();
        sums();
        holds();
        nearest();
        words();
        orderWords();
        ordersRun();
        faultsTold();
        finish("sentences on texts");
    }
}
