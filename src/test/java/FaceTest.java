import java.io.IOException;
import java.lang.reflect.Constructor;
import java.lang.reflect.Field;
import java.lang.reflect.Method;
import java.lang.reflect.Modifier;
import java.nio.charset.StandardCharsets;
import java.nio.file.Files;
import java.nio.file.Path;
import java.util.ArrayList;
import java.util.Collections;
import java.util.List;
import java.util.Set;
import java.util.TreeSet;

/** The class shows the document's face and nothing else, and keeps to those rules of LANGUAGE.md that a look can tell. */
public final class FaceTest {
    private static final String[] FACE = {
        "boolean restore()", "boolean undo()",
        "int both(int, int, int)", "int clerk(int, int, int)", "int count(int)", "int days(int)", "int fault()",
        "int feed(int, int, int, int, int)", "int filled(int, int, int)", "int night(int, int, int)",
        "int price(int, int, int)", "int rides(int)", "int send(int, int)", "int spared(int)", "int told(int)",
        "int tonight(int, int)", "int tour()", "int town(int, int)", "int trunk(int, int)",
        "int unopened(int, int, int, int, int)", "int way(int, int)",
        "long lost(int, int, int, int)", "void forget()", "void image()", "void seed(int)"
    };

    private static final String[] RULED_OUT = {
        "->", "::", "synchronized", "finally", "assert ", "Exact(", "try", "catch", "Random", "currentTimeMillis",
        "nanoTime", "System.out", "getMessage", "hashCode", "equals("
    };

    private static int wrong = 0;

    private static void must(boolean holds, String what) {
        if (!holds) {
            wrong++;
            System.out.println("not so: " + what);
        }
    }

    public static void main(String[] args) throws IOException {
        face();
        insideClasses();
        source();
        System.out.println(wrong == 0 ? "the face is as told" : wrong + " faults of the face");
        if (wrong != 0) {
            System.exit(1);
        }
    }

    private static String told(Method m) {
        List<String> parameters = new ArrayList<>();
        for (Class<?> c : m.getParameterTypes()) {
            parameters.add(c.getSimpleName());
        }
        return m.getReturnType().getSimpleName() + " " + m.getName() + "(" + String.join(", ", parameters) + ")";
    }

    private static void face() {
        Class<?> c = TroupeTrunks.class;
        must(Modifier.isPublic(c.getModifiers()) && Modifier.isFinal(c.getModifiers()), "the class is public and final");
        List<String> shown = new ArrayList<>();
        Set<String> names = new TreeSet<>();
        for (Method m : c.getDeclaredMethods()) {
            if (!Modifier.isPrivate(m.getModifiers())) {
                must(Modifier.isPublic(m.getModifiers()), m + " is public");
                shown.add(told(m));
                names.add(m.getName());
            }
        }
        Collections.sort(shown);
        List<String> due = new ArrayList<>(List.of(FACE));
        Collections.sort(due);
        must(shown.equals(due), "the methods are " + due + ", not " + shown);
        for (Method m : c.getDeclaredMethods()) {
            must(!Modifier.isPrivate(m.getModifiers()) || !names.contains(m.getName()), m + " has a name of its own");
        }
        for (Class<?> inside : c.getDeclaredClasses()) {
            for (Method m : inside.getDeclaredMethods()) {
                must(!names.contains(m.getName()), m + " has a name of its own");
            }
        }
        for (Field f : c.getDeclaredFields()) {
            must(Modifier.isPrivate(f.getModifiers()) || f.getName().equals("NONE"), f + " is private");
        }
        Constructor<?>[] made = c.getDeclaredConstructors();
        must(made.length == 1 && made[0].getParameterCount() == 0 && Modifier.isPublic(made[0].getModifiers()),
                "one public constructor");
    }

    private static void insideClasses() {
        Class<?>[] inside = TroupeTrunks.class.getDeclaredClasses();
        must(inside.length < 12, "some twelve classes");
        List<Class<?>> all = new ArrayList<>(List.of(inside));
        all.add(TroupeTrunks.class);
        for (Class<?> c : all) {
            int fields = 0;
            for (Field f : c.getDeclaredFields()) {
                must(!Modifier.isStatic(f.getModifiers()) || Modifier.isFinal(f.getModifiers()), f + " is final");
                fields += Modifier.isStatic(f.getModifiers()) ? 0 : 1;
            }
            must(fields <= 20, c + " has at most twenty fields");
            must(c == TroupeTrunks.class || Modifier.isStatic(c.getModifiers()) && !Modifier.isPublic(c.getModifiers()),
                    c + " is static and not public");
            for (Method m : c.getDeclaredMethods()) {
                must(m.getParameterCount() <= 7, m + " takes at most seven");
            }
        }
    }

    private static void source() throws IOException {
        String text = Files.readString(Path.of("src/main/java/TroupeTrunks.java"), StandardCharsets.ISO_8859_1);
        for (String line : text.split("\n")) {
            for (String word : RULED_OUT) {
                must(!line.contains(word), "no " + word + " in: " + line);
            }
            must(!line.startsWith("package"), "no package");
            must(!line.startsWith("import") || line.equals("import java.util.Arrays;")
                    || line.equals("import java.util.NoSuchElementException;"), "no library but what is listed: " + line);
        }
    }
}
