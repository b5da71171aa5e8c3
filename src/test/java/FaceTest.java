import java.io.IOException;
import java.lang.reflect.Constructor;
import java.lang.reflect.Field;
import java.lang.reflect.Method;
import java.lang.reflect.Modifier;
import java.nio.charset.StandardCharsets;
import java.nio.file.Files;
import java.nio.file.Path;
import java.util.ArrayList;
import java.util.Collections;
import java.util.List;
import java.util.Set;
import java.util.TreeSet;
import java.util.regex.Matcher;
import java.util.regex.Pattern;

/** The class shows the document's face and nothing else, and keeps to those rules of LANGUAGE.md that a look can tell. */
public final class FaceTest {
    private static final String[] RULED_OUT = {
        "->", "::", "synchronized", "finally", "assert ", "Exact(", "try", "catch", "Random", "currentTimeMillis",
        "nanoTime", "System.out", "getMessage", "hashCode", "equals("
    };

    private static int wrong = 0;

    private static void must(boolean holds, String what) {
        if (!holds) {
            wrong++;
            System.out.println("not so: " + what);
        }
    }

    public static void main(String[] args) throws IOException {
        face();
        insideClasses();
        source();
        System.out.println(wrong == 0 ? "the face is as told" : wrong + " faults of the face");
        if (wrong != 0) {
            System.exit(1);
        }
    }

    /** A member as the document writes it, but for the names of its parameters. */
    private static String written(String result, String name, Class<?>[] parameters, Class<?>[] thrown) {
        return result + name + "(" + names(parameters) + ")" + (thrown.length == 0 ? "" : " throws " + names(thrown));
    }

    private static String names(Class<?>[] classes) {
        List<String> names = new ArrayList<>();
        for (Class<?> c : classes) {
            names.add(c.getSimpleName());
        }
        return String.join(", ", names);
    }

    /** The members of 'The public face', with what they throw. */
    private static List<String> faceOfTheDocument() throws IOException {
        String page = Files.readString(Path.of("../shared/DOC.md"), StandardCharsets.UTF_8);
        List<String> due = new ArrayList<>();
        Matcher member = Pattern.compile("(?m)^    public ([^;=]*\\)[^;=]*);$").matcher(page);
        while (member.find()) {
            due.add(member.group(1).replaceAll("\\bint \\w+(?=[,)])", "int"));
        }
        Collections.sort(due);
        must(due.size() == 26, "the document's face has a constructor and 25 methods");
        return due;
    }

    private static void face() throws IOException {
        Class<?> c = TroupeTrunks.class;
        must(Modifier.isPublic(c.getModifiers()) && Modifier.isFinal(c.getModifiers()), "the class is public and final");
        List<String> shown = new ArrayList<>();
        Set<String> names = new TreeSet<>();
        for (Method m : c.getDeclaredMethods()) {
            if (!Modifier.isPrivate(m.getModifiers())) {
                must(Modifier.isPublic(m.getModifiers()) && !Modifier.isStatic(m.getModifiers()), m + " is public");
                shown.add(written(m.getReturnType().getSimpleName() + " ", m.getName(), m.getParameterTypes(),
                        m.getExceptionTypes()));
                names.add(m.getName());
            }
        }
        for (Constructor<?> made : c.getDeclaredConstructors()) {
            must(Modifier.isPublic(made.getModifiers()), made + " is public");
            shown.add(written("", c.getSimpleName(), made.getParameterTypes(), made.getExceptionTypes()));
        }
        Collections.sort(shown);
        List<String> due = faceOfTheDocument();
        must(shown.equals(due), "the members are " + due + ", not " + shown);
        namesOfTheirOwn(names);
        constants();
    }

    private static void namesOfTheirOwn(Set<String> names) {
        for (Method m : TroupeTrunks.class.getDeclaredMethods()) {
            must(!Modifier.isPrivate(m.getModifiers()) || !names.contains(m.getName()), m + " has a name of its own");
        }
        for (Class<?> inside : TroupeTrunks.class.getDeclaredClasses()) {
            for (Method m : inside.getDeclaredMethods()) {
                must(!names.contains(m.getName()), m + " has a name of its own");
            }
        }
    }

    private static void constants() {
        int shown = 0;
        for (Field f : TroupeTrunks.class.getDeclaredFields()) {
            if (!Modifier.isPrivate(f.getModifiers())) {
                shown++;
                must(f.toString().equals("public static final int TroupeTrunks.NONE"), f + " is NONE");
            }
        }
        must(shown == 1 && TroupeTrunks.NONE == -1, "NONE, which is -1, is the one constant shown");
    }

    private static void insideClasses() {
        Class<?>[] inside = TroupeTrunks.class.getDeclaredClasses();
        must(inside.length < 12, "some twelve classes");
        List<Class<?>> all = new ArrayList<>(List.of(inside));
        all.add(TroupeTrunks.class);
        for (Class<?> c : all) {
            int fields = 0;
            for (Field f : c.getDeclaredFields()) {
                must(!Modifier.isStatic(f.getModifiers()) || Modifier.isFinal(f.getModifiers()), f + " is final");
                fields += Modifier.isStatic(f.getModifiers()) ? 0 : 1;
            }
            must(fields <= 20, c + " has at most twenty fields");
            must(c == TroupeTrunks.class || Modifier.isStatic(c.getModifiers()) && !Modifier.isPublic(c.getModifiers()),
                    c + " is static and not public");
            for (Method m : c.getDeclaredMethods()) {
                must(m.getParameterCount() <= 7, m + " takes at most seven");
            }
        }
    }

    private static void source() throws IOException {
        String text = Files.readString(Path.of("src/main/java/TroupeTrunks.java"), StandardCharsets.ISO_8859_1);
        for (String line : text.split("\n")) {
            for (String word : RULED_OUT) {
                must(!line.contains(word), "no " + word + " in: " + line);
            }
            must(!line.startsWith("package"), "no package");
            must(!line.startsWith("import") || line.equals("import java.util.Arrays;")
                    || line.equals("import java.util.NoSuchElementException;"), "no library but what is listed: " + line);
        }
        shortMethods(text.split("\n"));
    }

    private static void shortMethods(String[] lines) {
        int methods = 0;
        for (int from = 0; from < lines.length; from++) {
            if (lines[from].matches(" {4,8}\\S.*\\) (throws .*)?\\{") && !lines[from].trim().matches("(if|for|while) .*")) {
                String end = lines[from].replaceAll("\\S.*", "}");
                int to = from;
                while (to < lines.length && !lines[to].equals(end)) {
                    to++;
                }
                methods++;
                must(to - from < 60, "some sixty lines: " + lines[from]);
            }
        }
        must(methods > 100, "methods are found in the source");
    }
}
