import java.util.Random;

/** Draws texts of both languages, some of them spoilt, and rows. */
final class Texts {
    private static final String[] LAW_WORDS =
        {"mirror", "place", "hour", "part", "bend", "silver", "night", "mood"};
    private static final String[] SPOILS =
        {"(", ")", "[", "]", ";", "if", "not", "and", "or", "by", "times", "1001", "0", "21", "*", "=", "A",
            "\u0000", "\u00ff", "makes", "pass", "hung", "mood", "silver", "stock", "part", "+ 1", "00001000"};
    private final Random random;

    Texts(Random random) {
        this.random = random;
    }

    /** The five numbers for feed() that bring the twenty bytes of a text from a place on, blanks behind it. */
    static int[] five(String text, int from) {
        int[] five = new int[5];
        for (int k = 0; k < 20; k++) {
            five[k / 4] = five[k / 4] << 8 | (from + k < text.length() ? text.charAt(from + k) : ' ');
        }
        return five;
    }

    /** The tape has this text alone then; what end() answers. */
    static int put(NightMirrors x, String text) {
        x.end(0);
        for (int i = 0; i < text.length(); i += 20) {
            int[] five = five(text, i);
            x.feed(five[0], five[1], five[2], five[3], five[4]);
        }
        return x.end(text.length());
    }

    private String gap() {
        return random.nextInt(8) == 0 ? "  " : " ";
    }

    private String one(String... of) {
        return of[random.nextInt(of.length)];
    }

    private String number() {
        switch (random.nextInt(12)) {
            case 0: return "1000";
            case 1: return Integer.toString(random.nextInt(1001));
            case 2: return "0" + random.nextInt(10);
            default: return Integer.toString(random.nextInt(8));
        }
    }

    private String word(boolean law) {
        if (law) {
            return one(LAW_WORDS);
        }
        switch (random.nextInt(6)) {
            case 0: return "night";
            case 1: return "done";
            case 2: return "latest";
            case 3: return "hung";
            case 4: return "silver " + random.nextInt(6);
            default: return "stock " + random.nextInt(8);
        }
    }

    private String part(boolean law, int depth) {
        int pick = random.nextInt(10);
        if (pick == 0 && depth < 9) {
            return "[" + sum(law, depth + 1) + "]";
        }
        return pick < 5 ? number() : word(law);
    }

    private String sum(boolean law, int depth) {
        StringBuilder b = new StringBuilder(part(law, depth));
        for (int i = random.nextInt(4) - 1; i > 0; i--) {
            b.append(gap()).append(one("+", "-", "*", "/", "%")).append(gap()).append(part(law, depth));
        }
        return b.toString();
    }

    private String plain(boolean law, int depth) {
        int pick = random.nextInt(10);
        if (pick == 0) {
            return "not " + plain(law, depth);
        }
        if (pick < 3 && depth < 9) {
            return "(" + test(law, depth + 1) + ")";
        }
        return sum(law, depth) + gap() + one("<", ">", "=") + gap() + sum(law, depth);
    }

    private String test(boolean law, int depth) {
        StringBuilder b = new StringBuilder(plain(law, depth));
        for (int i = random.nextInt(4) - 1; i > 0; i--) {
            b.append(gap()).append(one("or", "and")).append(gap()).append(plain(law, depth));
        }
        return b.toString();
    }

    private String spoilt(String text) {
        if (random.nextInt(6) != 0) {
            return text;
        }
        int at = random.nextInt(text.length() + 1);
        switch (random.nextInt(3)) {
            case 0: return text.substring(0, at) + one(SPOILS) + text.substring(at);
            case 1: return text.substring(0, at);
            default: return text.substring(0, at) + " " + one(SPOILS) + " " + text.substring(at);
        }
    }

    private String cut(String text) {
        return text.length() <= 400 ? text : text.substring(0, 400);
    }

    private String deep() {
        int depth = 7 + random.nextInt(3);
        boolean round = random.nextBoolean();
        return round ? "bars if " + "(".repeat(depth) + "not hour = 1" + ")".repeat(depth)
            : "makes " + "[".repeat(depth) + "part" + "]".repeat(depth);
    }

    private String many(String clause, String between) {
        int n = 11 + random.nextInt(3);
        return String.join(between, java.util.Collections.nCopies(n, clause));
    }

    String law() {
        switch (random.nextInt(14)) {
            case 0: return deep();
            case 1: return many(one("bars", "makes 1"), ";") + one("", ";", "  ");
            case 2: return "makes 1" + "+1".repeat(48 + random.nextInt(3)) + one("", " if hour = 2");
            case 3: return " ".repeat(random.nextInt(30));
            case 4: return "bars if " + "not ".repeat(random.nextInt(90)) + "place = 0";
            default: break;
        }
        StringBuilder b = new StringBuilder();
        int n = 1 + random.nextInt(5);
        for (int i = 0; i < n; i++) {
            b.append(i == 0 ? "" : one(";", " ; "));
            String verb = one("makes", "makes", "wears", "pays", "bars");
            b.append(verb);
            boolean bars = verb.equals("bars");
            if (!bars) {
                b.append(gap()).append(sum(true, 0));
            }
            if (bars || random.nextInt(2) == 0) {
                b.append(gap()).append("if").append(gap()).append(test(true, 0));
                b.append(bars && random.nextInt(2) == 0 ? " and place = " + random.nextInt(3) : "");
            }
        }
        return cut(spoilt(b.toString()));
    }

    String orders() {
        switch (random.nextInt(12)) {
            case 0: return many("pass", ";") + one("", ";", "  ");
            case 1: return "hang " + "0+".repeat(48 + random.nextInt(3)) + "silver 1";
            case 2: return "pass times 20;pass times " + random.nextInt(22) + " if stock 0 < 50";
            case 3: return " ".repeat(random.nextInt(30));
            default: break;
        }
        StringBuilder b = new StringBuilder();
        int n = 1 + random.nextInt(5);
        for (int i = 0; i < n; i++) {
            b.append(i == 0 ? "" : one(";", " ; "));
            String verb = one("hang", "hang", "down", "polish", "pass", "pass");
            b.append(verb);
            String mirror = random.nextInt(4) == 0 ? sum(false, 0) : Integer.toString(random.nextInt(6));
            if (!verb.equals("pass")) {
                b.append(gap()).append(mirror);
            }
            if (verb.equals("polish")) {
                b.append(" by ").append(random.nextInt(3) == 0 ? sum(false, 0) : number());
            }
            if (random.nextInt(4) == 0) {
                b.append(" times ").append(1 + random.nextInt(random.nextInt(8) == 0 ? 21 : 3));
            }
            if (random.nextInt(3) == 0) {
                b.append(" if ").append(test(false, 0));
            } else if (verb.equals("polish") && random.nextInt(3) > 0) {
                b.append(" if stock 0 > 0 and silver ").append(random.nextInt(6)).append(" > 0");
            } else if (verb.equals("hang") && random.nextInt(3) > 0) {
                b.append(" if silver ").append(random.nextInt(6)).append(" > 0 and hung < 1");
            }
        }
        return cut(spoilt(b.toString()));
    }

    String row() {
        StringBuilder b = new StringBuilder();
        int n = random.nextInt(12);
        for (int i = 0; i < n; i++) {
            b.append((char) (random.nextInt(6) == 0 ? random.nextInt(256) : random.nextInt(9)));
        }
        return b.toString();
    }
}
