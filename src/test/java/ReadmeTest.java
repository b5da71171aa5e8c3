import java.io.IOException;
import java.lang.reflect.InvocationTargetException;
import java.lang.reflect.Method;
import java.lang.reflect.Modifier;
import java.nio.charset.StandardCharsets;
import java.nio.file.Files;
import java.nio.file.Path;
import java.util.Set;
import java.util.TreeSet;
import java.util.regex.Matcher;
import java.util.regex.Pattern;

/** README.md says how to use the class: its text is told, and its calls answer what stands behind them. */
public final class ReadmeTest {
    private static final Pattern TEXT = Pattern.compile("```text\n(.*?)```", Pattern.DOTALL);
    private static final Pattern CALL = Pattern.compile("^x\\.(\\w+)\\(([^)]*)\\);(?:\\s*// (throws )?([-\\w]+).*)?$");

    private static int wrong = 0;
    private static int lines = 0;
    private static final Set<String> called = new TreeSet<>();

    public static void main(String[] args) throws IOException, IllegalAccessException {
        String page = Files.readString(Path.of("README.md"), StandardCharsets.UTF_8);
        TroupeTrunks x = new TroupeTrunks();
        Matcher text = TEXT.matcher(page);
        must(text.find() && told(x, text.group(1)) == 0, "README.md has a text that can be told");
        for (String line : page.split("\n")) {
            Matcher call = CALL.matcher(line);
            if (call.matches()) {
                lines++;
                String due = call.group(4) == null ? "null" : call.group(4);
                String answer = answerOf(x, call.group(1), call.group(2));
                must(answer.equals(due), line + " (answered " + answer + ")");
            }
        }
        // These two stand in README.md's told(), which is below.
        called.add("feed");
        called.add("told");
        for (Method m : TroupeTrunks.class.getDeclaredMethods()) {
            must(!Modifier.isPublic(m.getModifiers()) || called.contains(m.getName()),
                    "README.md shows " + m.getName());
        }
        must(page.contains(toldAsWritten()), "README.md shows told() as it stands in this test");
        System.out.println(lines + " lines of README.md looked at, " + wrong + " not so");
        if (wrong != 0) {
            System.exit(1);
        }
    }

    private static void must(boolean holds, String what) {
        if (!holds) {
            wrong++;
            System.out.println("not so: " + what);
        }
    }

    private static String answerOf(TroupeTrunks x, String name, String arguments) throws IllegalAccessException {
        String[] written = arguments.isEmpty() ? new String[0] : arguments.split(", ");
        Object[] values = new Object[written.length];
        for (int i = 0; i < written.length; i++) {
            values[i] = Integer.valueOf(written[i]);
        }
        called.add(name);
        for (Method m : TroupeTrunks.class.getDeclaredMethods()) {
            if (m.getName().equals(name) && m.getParameterCount() == values.length) {
                try {
                    return String.valueOf(m.invoke(x, values));
                } catch (InvocationTargetException e) {
                    return e.getCause().getClass().getSimpleName();
                }
            }
        }
        return "no such call";
    }

    private static String toldAsWritten() throws IOException {
        String source = Files.readString(Path.of("src/test/java/ReadmeTest.java"), StandardCharsets.UTF_8);
        int from = source.lastIndexOf("    static int told(");
        int to = source.indexOf("\n    }\n", from) + 7;
        return source.substring(from, to).replaceAll("(?m)^    ", "");
    }

    static int told(TroupeTrunks x, String text) {
        int[] v = new int[5];
        for (int i = 0; i < text.length() + 19 - (text.length() + 19) % 20; i++) {
            v[i % 20 / 4] = v[i % 20 / 4] << 8 | (i < text.length() ? text.charAt(i) : ' ');
            if (i % 20 == 19) {
                x.feed(v[0], v[1], v[2], v[3], v[4]);
            }
        }
        return x.told(text.length());
    }
}
