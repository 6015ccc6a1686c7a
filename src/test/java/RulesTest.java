import java.lang.reflect.Constructor;
import java.lang.reflect.Field;
import java.lang.reflect.Method;
import java.lang.reflect.Modifier;
import java.nio.file.Files;
import java.nio.file.Path;
import java.util.Arrays;
import java.util.HashSet;
import java.util.List;
import java.util.Set;
import java.util.TreeSet;
import java.util.regex.Matcher;
import java.util.regex.Pattern;

/** What of LANGUAGE.md and of the document's face can be told from the class and from its source. */
public final class RulesTest {
    private static final List<String> FACE = Arrays.asList("int mirror(int,int,int)", "int of(int,int)", "int at(int)",
        "int asks(int,int,int,int)", "int crack(int,int,int)", "int part(int,int)", "int clock(int,int)",
        "int terms(int,int)", "int feed(int,int,int,int,int)", "int end(int)", "int row()", "int screws()",
        "int law()", "int orders()", "int fault()", "int stopped()", "int force(int)", "int hang(int)",
        "int down(int)", "int polish(int,int)", "int pass()", "int undo()", "int makes(int)", "int whole(int,int)",
        "int near(int)", "int hear(int,int,int)", "int forget()", "int lines(int,int,int)", "int listen(int,int)",
        "int face(int,int,int,int)", "int union(int)", "int ends(int)", "int till()", "int twins(int)",
        "long lasts(int,int)", "int wages(int)", "int years(int,int)", "int drawn(int,int)", "int image(int)",
        "int back(int)", "int count(int)", "int status()");
    private static final int LONGEST_METHOD = 60;
    private static int wrong = 0;

    private static void must(boolean good, String what) {
        if (!good) {
            wrong++;
            System.out.println("not kept: " + what);
        }
    }

    private static String told(Method m) {
        StringBuilder b = new StringBuilder(m.getReturnType().getSimpleName()).append(' ').append(m.getName());
        b.append('(');
        for (Class<?> type : m.getParameterTypes()) {
            b.append(b.charAt(b.length() - 1) == '(' ? "" : ",").append(type.getSimpleName());
        }
        return b.append(')').toString();
    }

    private static void face() throws Exception {
        Class<?> c = NightMirrors.class;
        must(Modifier.isPublic(c.getModifiers()) && Modifier.isFinal(c.getModifiers()), "public final class");
        Set<String> shown = new TreeSet<>();
        for (Method m : c.getDeclaredMethods()) {
            if (Modifier.isPublic(m.getModifiers())) {
                shown.add(told(m));
                must(!Modifier.isStatic(m.getModifiers()), m + " is no method of an object");
            } else {
                must(Modifier.isPrivate(m.getModifiers()) || m.isSynthetic(), m + " is not private");
            }
        }
        must(shown.equals(new TreeSet<>(FACE)), "the face: " + shown);
        for (Field f : c.getDeclaredFields()) {
            boolean isNone = f.getName().equals("NONE");
            must(isNone ? Modifier.isPublic(f.getModifiers()) : Modifier.isPrivate(f.getModifiers()), f.toString());
        }
        must(c.getField("NONE").getInt(null) == -1, "NONE = -1");
        Constructor<?>[] made = c.getDeclaredConstructors();
        must(made.length == 1 && made[0].getParameterCount() == 0 && Modifier.isPublic(made[0].getModifiers()),
            "one public constructor without arguments");
    }

    private static void inside() {
        Set<String> names = new HashSet<>();
        for (String told : FACE) {
            names.add(told.substring(told.indexOf(' ') + 1, told.indexOf('(')));
        }
        Class<?>[] classes = NightMirrors.class.getDeclaredClasses();
        must(classes.length <= 11, "at most twelve classes");
        for (Class<?> c : classes) {
            must(Modifier.isStatic(c.getModifiers()), c + " is static");
            for (Method m : c.getDeclaredMethods()) {
                must(!names.contains(m.getName()), m + " bears the name of a public one");
            }
            fields(c);
        }
        fields(NightMirrors.class);
    }

    private static void fields(Class<?> c) {
        int own = 0;
        for (Field f : c.getDeclaredFields()) {
            boolean isStatic = Modifier.isStatic(f.getModifiers());
            own += isStatic ? 0 : 1;
            must(!isStatic || Modifier.isFinal(f.getModifiers()) && f.getType().isPrimitive(), f + " is a constant");
        }
        must(own <= 20, c + " has " + own + " fields");
        for (Method m : c.getDeclaredMethods()) {
            must(m.getParameterCount() <= 7, m + " has at most seven parameters");
        }
    }

    /** The source without comments, texts and signs, its lines as they were. */
    static String bare(String source) {
        StringBuilder b = new StringBuilder();
        Matcher m = Pattern.compile("/\\*.*?\\*/|//[^\n]*|\"(?:\\\\.|[^\"\\\\])*\"|'(?:\\\\.|[^'\\\\])'", Pattern.DOTALL)
            .matcher(source);
        int at = 0;
        while (m.find()) {
            b.append(source, at, m.start());
            b.append(m.group().startsWith("\"") ? "\"\"" : m.group().startsWith("'") ? "0" : "");
            b.append(m.group().replaceAll("[^\n]", ""));
            at = m.end();
        }
        return b.append(source.substring(at)).toString();
    }

    private static void source() throws Exception {
        String text = Files.readString(Path.of("src/main/java/NightMirrors.java"));
        String bare = bare(text);
        String[] banned = {"\\bthrow\\b", "\\bthrows\\b", "\\btry\\b", "\\bcatch\\b", "\\bsynchronized\\b",
            "\\bassert\\b", "->", "::", "Exact\\s*\\(", "\\bpackage\\b", "\\bvar\\b", "\\bsealed\\b", "\\bthis\\s*\\)",
            "\\bstatic\\s*\\{", "\"\"\\s*\\+", "\\+\\s*\"\"", "\\bhashCode\\b", "\\btoString\\b", "\\bObject\\b",
            "\\bnative\\b", "\\bThread\\b", "\\bprotected\\b", "\\bSystem\\s*\\.\\s*(?!arraycopy)"};
        for (String b : banned) {
            Matcher m = Pattern.compile(b).matcher(bare);
            must(!m.find(), "the source has " + b);
        }
        Matcher imports = Pattern.compile("import\\s+([^;]+);").matcher(bare);
        while (imports.find()) {
            must(imports.group(1).equals("java.util.Arrays"), "imports " + imports.group(1));
        }
        must(text.chars().allMatch(c -> c < 128), "all signs are plain");
        String[] rows = bare.split("\n", -1);
        for (int i = 0; i < rows.length; i++) {
            if (rows[i].matches(" {4}( {4})?[a-zA-Z].*\\) \\{")) {
                int indent = rows[i].indexOf(rows[i].trim());
                int j = i;
                while (j < rows.length && !rows[j].equals(" ".repeat(indent) + "}")) {
                    j++;
                }
                must(j - i + 1 <= LONGEST_METHOD, "short: " + rows[i].trim() + " has " + (j - i + 1) + " lines");
            }
            must(rows[i].length() <= 120, "line " + (i + 1) + " is short");
        }
    }

    public static void main(String[] args) throws Exception {
        face();
        inside();
        source();
        System.out.println(wrong == 0 ? "the rules are kept" : wrong + " rules are not kept");
        if (wrong != 0) {
            System.exit(1);
        }
    }
}
