import java.lang.reflect.Array;
import java.lang.reflect.Field;
import java.lang.reflect.Modifier;
import java.nio.file.Files;
import java.nio.file.Path;
import java.util.ArrayDeque;
import java.util.IdentityHashMap;
import java.util.Map;
import java.util.regex.Matcher;
import java.util.regex.Pattern;

/**
 * All calls of a run live in one room of some 600,000 objects and 7.3 million fields and elements: what an object
 * holds, and what its dearest calls make, times as many as there may be.
 */
public final class RoomTest extends Dues {
    private static final int CALLS = 512;
    private static final int MOST_OBJECTS = 600000;
    private static final int MOST_ELEMENTS = 7300000;

    private static final class Held {
        int objects;
        int elements;
    }

    /** All that can be reached from an object, arrays among it. */
    private static Held held(Object from) throws Exception {
        Held held = new Held();
        Map<Object, Boolean> seen = new IdentityHashMap<>();
        ArrayDeque<Object> open = new ArrayDeque<>();
        open.add(from);
        while (!open.isEmpty()) {
            Object one = open.remove();
            if (seen.put(one, true) != null) {
                continue;
            }
            held.objects++;
            if (one.getClass().isArray()) {
                held.elements += Array.getLength(one);
                for (int i = 0; one instanceof Object[] row && i < row.length; i++) {
                    add(open, row[i]);
                }
                continue;
            }
            for (Field f : one.getClass().getDeclaredFields()) {
                if (!Modifier.isStatic(f.getModifiers())) {
                    held.elements++;
                    f.setAccessible(true);
                    add(open, f.getType().isPrimitive() ? null : f.get(one));
                }
            }
        }
        return held;
    }

    private static void add(ArrayDeque<Object> open, Object one) {
        if (one != null) {
            open.add(one);
        }
    }

    /** Where the class makes anything: its constructors and fields, and the one place that makes a text. */
    private static int madeInMethods() throws Exception {
        String bare = RulesTest.bare(Files.readString(Path.of("src/main/java/NightMirrors.java")));
        int made = 0;
        String method = "";
        for (String row : bare.split("\n")) {
            if (row.matches(" {4}( {4})?(?!(for|if|while|switch) )[a-zA-Z].*\\) \\{")) {
                method = row.trim();
            }
            Matcher makes = Pattern.compile("\\bnew \\w|\\bcopyOf\\w*\\(|\\bclone\\(|\\bvalues\\(").matcher(row);
            boolean ofField = row.matches(" {4}( {4})?(private )?final .*");
            boolean ofMaker = method.matches("(public )?(NightMirrors|[A-Z]\\w*)\\(.*");
            while (makes.find()) {
                made += ofField || ofMaker ? 0 : 1;
            }
        }
        return made;
    }

    /** A law of as much code as can be. */
    private static String dearest() {
        return "makes " + times("1+", 49) + "1" + times(";bars", 11);
    }

    public static void main(String[] args) throws Exception {
        says("what an object holds, made anew with every call");
        NightMirrors x = new NightMirrors();
        Held made = held(x);
        due("objects fit", (long) made.objects * CALLS < MOST_OBJECTS ? 1 : 0, 1);
        due("elements fit", (long) made.elements * CALLS < MOST_ELEMENTS ? 1 : 0, 1);

        says("what a text makes, read with every call");
        due("places that make anything but in constructors", madeInMethods(), 1);
        due(dearest(), law(x, dearest()), 0);
        Held behind = held(x);
        int objects = behind.objects - made.objects;
        int elements = behind.elements - made.elements;
        due("objects of a text", objects, 3);
        due("elements of a text", elements < 600 ? 1 : 0, 1);
        due("all fit", (long) elements * CALLS + made.elements < MOST_ELEMENTS ? 1 : 0, 1);

        says("what calls leave behind");
        for (int i = 0; i < 6; i++) {
            x.mirror(12345, i, 30);
        }
        Held ahead = held(x);
        for (int i = 0; i < 6; i++) {
            x.hang(i);
        }
        x.clock(0, 1);
        x.hear(1, 1, 1);
        x.pass();
        x.image(0);
        x.listen(6, 0);
        x.lines(6, 5, 0);
        x.whole(8, 0);
        x.near(8);
        x.years(1, 60);
        x.till();
        x.undo();
        x.back(0);
        orders(x, "pass times 20");
        due("objects are no more", held(x).objects, ahead.objects);
        due("elements are no more", held(x).elements, ahead.elements);
        System.out.println("an object holds " + made.objects + " objects, " + made.elements + " elements");
        finish("sentences on the room");
    }
}
