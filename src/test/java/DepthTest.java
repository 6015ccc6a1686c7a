import java.nio.file.Files;
import java.nio.file.Path;
import java.util.HashMap;
import java.util.LinkedHashMap;
import java.util.Map;
import java.util.Set;
import java.util.TreeSet;
import java.util.regex.Matcher;
import java.util.regex.Pattern;

/**
 * Rule 11 of LANGUAGE.md: calls that are no recursion go at most eight deep. Told from the source, by the methods'
 * names alone; a call that may come round to its caller again is recursion, and does not count.
 */
public final class DepthTest {
    private static final int DEEPEST = 8;
    private static final Pattern HEAD = Pattern.compile(" {4}(?: {4})?[a-zA-Z].*?(\\w+)\\([^()]*\\) \\{");
    private static final Pattern CALLED = Pattern.compile("(?<!new )\\b(\\w+)\\(");

    private final Map<String, String> bodies = new LinkedHashMap<>();
    private final Map<String, Set<String>> calls = new HashMap<>();
    private final Map<String, Set<String>> reached = new HashMap<>();

    private DepthTest(String[] rows) {
        for (int i = 0; i < rows.length; i++) {
            Matcher head = HEAD.matcher(rows[i]);
            if (head.matches()) {
                int indent = rows[i].length() - rows[i].stripLeading().length();
                StringBuilder body = new StringBuilder();
                for (int j = i + 1; j < rows.length && !rows[j].equals(" ".repeat(indent) + "}"); j++) {
                    body.append(rows[j]).append('\n');
                }
                bodies.merge(head.group(1), body.toString(), String::concat);
            }
        }
        for (String name : bodies.keySet()) {
            Set<String> named = new TreeSet<>();
            Matcher called = CALLED.matcher(bodies.get(name));
            while (called.find()) {
                if (bodies.containsKey(called.group(1))) {
                    named.add(called.group(1));
                }
            }
            calls.put(name, named);
        }
        for (String name : bodies.keySet()) {
            Set<String> all = new TreeSet<>();
            reach(name, all);
            reached.put(name, all);
        }
    }

    private void reach(String name, Set<String> all) {
        for (String called : calls.get(name)) {
            if (all.add(called)) {
                reach(called, all);
            }
        }
    }

    private boolean comeRound(String one, String other) {
        return one.equals(other) || reached.get(one).contains(other) && reached.get(other).contains(one);
    }

    private int depth(String name) {
        int deepest = 0;
        for (String from : bodies.keySet()) {
            if (comeRound(name, from)) {
                for (String called : calls.get(from)) {
                    deepest = Math.max(deepest, comeRound(from, called) ? 0 : depth(called));
                }
            }
        }
        return deepest + 1;
    }

    public static void main(String[] args) throws Exception {
        String source = Files.readString(Path.of("src/main/java/NightMirrors.java"));
        DepthTest test = new DepthTest(RulesTest.bare(source).split("\n", -1));
        int wrong = 0;
        int deepest = 0;
        for (String name : test.bodies.keySet()) {
            int depth = test.depth(name);
            deepest = Math.max(deepest, depth);
            if (depth > DEEPEST) {
                wrong++;
                System.out.println(name + " goes " + depth + " deep");
            }
        }
        // A source in which hardly a method or a call was found has not been looked at.
        boolean seen = test.bodies.size() > 100 && deepest > 4;
        System.out.println(test.bodies.size() + " methods go " + deepest + " deep at most, " + wrong + " too deep");
        if (wrong != 0 || !seen) {
            System.exit(1);
        }
    }
}
