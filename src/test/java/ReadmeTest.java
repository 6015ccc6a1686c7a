import java.lang.reflect.Method;
import java.nio.file.Files;
import java.nio.file.Path;
import java.util.ArrayList;
import java.util.HashMap;
import java.util.List;
import java.util.Map;
import java.util.TreeSet;
import java.util.regex.Matcher;
import java.util.regex.Pattern;

/** What README.md says of the class: its calls, one after the other, answer what stands behind them. */
public final class ReadmeTest extends Dues {
    private static final Pattern CALL = Pattern.compile("x\\.(\\w+)\\(([-\\d, ]*)\\); *// (-?\\d+):.*");
    private static final Pattern SAY = Pattern.compile("say\\(x, \"([^\"]*)\"\\);");
    private static final int FEWEST_CALLS = 15;

    private static Object[] numbers(String list) {
        List<Object> all = new ArrayList<>();
        for (String one : list.split(",")) {
            if (!one.isBlank()) {
                all.add(Integer.parseInt(one.trim()));
            }
        }
        return all.toArray();
    }

    private static void examples(List<String> rows, Map<String, Method> face) throws Exception {
        NightMirrors x = new NightMirrors();
        int calls = 0;
        for (String row : rows) {
            Matcher say = SAY.matcher(row);
            Matcher call = CALL.matcher(row);
            if (say.matches()) {
                due(row, Texts.put(x, say.group(1)), say.group(1).length());
            } else if (call.matches()) {
                Object answer = face.get(call.group(1)).invoke(x, numbers(call.group(2)));
                due(row, ((Number) answer).longValue(), Long.parseLong(call.group(3)));
                calls++;
            } else {
                due("is a call that can be tried: " + row, row.startsWith("x.") || row.startsWith("say(") ? 1 : 0, 0);
            }
        }
        due("calls that can be tried", calls >= FEWEST_CALLS ? 1 : 0, 1);
    }

    private static void table(List<String> rows, Map<String, Method> face) {
        TreeSet<String> named = new TreeSet<>();
        for (String row : rows) {
            Matcher name = Pattern.compile("`(\\w+)`").matcher(row);
            while (row.startsWith("|") && name.find()) {
                due(name.group(1) + " is named once", named.add(name.group(1)) ? 1 : 0, 1);
            }
        }
        due("all calls are named", named.equals(new TreeSet<>(face.keySet())) ? 1 : 0, 1);
    }

    public static void main(String[] args) throws Exception {
        Map<String, Method> face = new HashMap<>();
        for (Method m : NightMirrors.class.getMethods()) {
            if (m.getDeclaringClass() == NightMirrors.class) {
                face.put(m.getName(), m);
            }
        }
        List<String> rows = Files.readAllLines(Path.of("README.md"));
        says("README.md, its examples");
        examples(rows, face);
        says("README.md, its table");
        table(rows, face);
        finish("parts of README.md");
    }
}
