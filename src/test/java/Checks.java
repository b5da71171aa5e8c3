import java.nio.charset.StandardCharsets;
import java.util.Arrays;
import java.util.NoSuchElementException;

/** What the tests by hand share: one object at a time, its calls, and the answers that are due. */
class Checks {
    static final int NONE = -1;
    static final String MISSING = "throws.NoSuchElementException";
    static final String BAD = "throws.IllegalArgumentException";

    /** What calls behind these answer is free, so a test may not look at it. */
    private static final int MOST_CALLS = 512;

    static TroupeTrunks x = new TroupeTrunks();

    private static int wrong = 0;
    private static int checks = 0;
    private static int parts = 0;
    private static int calls = 0;
    private static String part = "";

    interface Call {
        long answer();
    }

    /** A new object; what is found wrong from here on is told under this name, which is a sentence where it can be. */
    static void start(String name) {
        part = name;
        parts++;
        calls = 0;
        x = new TroupeTrunks();
    }

    static void report() {
        System.out.println(parts + " parts, " + checks + " answers looked at, " + wrong + " not as due");
        if (wrong != 0) {
            System.exit(1);
        }
    }

    static void complain(String what) {
        wrong++;
        System.out.println(part + ": " + what);
    }

    static String answerOf(Call call) {
        calls++;
        if (calls == MOST_CALLS + 1) {
            complain("the test makes more calls than an object is used for");
        }
        try {
            return Long.toString(call.answer());
        } catch (NoSuchElementException e) {
            return MISSING;
        } catch (IllegalArgumentException e) {
            return e.getClass() == IllegalArgumentException.class ? BAD : "throws." + e.getClass().getSimpleName();
        } catch (RuntimeException e) {
            return "throws." + e.getClass().getSimpleName();
        }
    }

    static void due(String call, Object want, Call got) {
        String answer = answerOf(got);
        checks++;
        if (!answer.equals(want.toString())) {
            complain(call + " answered " + answer + ", due is " + want);
        }
    }

    /** A call that is due to change nothing that can be asked for. */
    static void idle(String call, Object want, Call got) {
        String before = state();
        due(call, want, got);
        unchanged(before);
    }

    static void unchanged(String before) {
        String after = state();
        if (!after.equals(before)) {
            complain("it was " + before + " and is " + after);
        }
    }

    /** A call that is due to answer NONE and to change one number of STATUS alone, by one. */
    static void refused(int status, String call, Call got) {
        String[] before = state().split(" ");
        due(call, NONE, got);
        before[10 + status] = Integer.toString(Integer.parseInt(before[10 + status]) + 1);
        unchanged(String.join(" ", before));
    }

    /** All that can be asked without a change, but for what only later sendings show. */
    static String state() {
        StringBuilder all = new StringBuilder();
        for (int what = 0; what <= 12; what++) {
            int w = what;
            all.append(answerOf(() -> x.count(w))).append(' ');
        }
        all.append("fault ").append(answerOf(() -> x.fault()));
        for (int town = 0; town < x.count(0); town++) {
            int t = town;
            all.append(" | ").append(answerOf(() -> x.town(t, 0))).append(' ').append(answerOf(() -> x.town(t, 4)));
        }
        for (int trunk = 0; trunk < x.count(1); trunk++) {
            int t = trunk;
            all.append(" / ").append(answerOf(() -> x.trunk(t, 1))).append(' ').append(answerOf(() -> x.trunk(t, 2)))
                    .append(' ').append(answerOf(() -> x.rides(t)));
        }
        return all.append(" spared ").append(answerOf(() -> x.spared(1))).toString();
    }

    // ---- the text

    static void feedText(String text) {
        byte[] bytes = Arrays.copyOf(text.getBytes(StandardCharsets.ISO_8859_1), (text.length() + 19) / 20 * 20);
        for (int at = 0; at < bytes.length; at += 20) {
            int[] v = new int[5];
            for (int i = 0; i < 20; i++) {
                v[i / 4] = v[i / 4] << 8 | bytes[at + i] & 255;
            }
            answerOf(() -> x.feed(v[0], v[1], v[2], v[3], v[4]));
        }
    }

    static void tell(String text) {
        feedText(text);
        due("told: " + text, 0, () -> x.told(text.length()));
    }

    static void tellFault(String text, int fault, int place) {
        feedText(text);
        due("told: " + text, fault, () -> x.told(text.length()));
        due("fault() of: " + text, place, () -> x.fault());
    }

    static void fault(int want) {
        due("fault()", want, () -> x.fault());
    }

    // ---- the other calls

    static void count(int what, Object want) {
        due("count(" + what + ")", want, () -> x.count(what));
    }

    static void town(int town, int what, Object want) {
        due("town(" + town + ", " + what + ")", want, () -> x.town(town, what));
    }

    static void trunk(int trunk, int what, Object want) {
        due("trunk(" + trunk + ", " + what + ")", want, () -> x.trunk(trunk, what));
    }

    static void way(int from, int to, Object want) {
        due("way(" + from + ", " + to + ")", want, () -> x.way(from, to));
    }

    static void price(int play, int town, int things, Object want) {
        due("price(" + play + ", " + town + ", " + things + ")", want, () -> x.price(play, town, things));
    }

    static void filled(int play, int town, int i, Object want) {
        due("filled(" + play + ", " + town + ", " + i + ")", want, () -> x.filled(play, town, i));
    }

    static void tonight(int town, Object play, Object price) {
        due("tonight(" + town + ", 0)", play, () -> x.tonight(town, 0));
        due("tonight(" + town + ", 1)", price, () -> x.tonight(town, 1));
    }

    static void both(int town, int other, Object plays, Object prices) {
        due("both(" + town + ", " + other + ", 0)", plays, () -> x.both(town, other, 0));
        due("both(" + town + ", " + other + ", 1)", prices, () -> x.both(town, other, 1));
    }

    static void send(int trunk, int to, Object want) {
        due("send(" + trunk + ", " + to + ")", want, () -> x.send(trunk, to));
    }

    static void seed(int seed) {
        answerOf(() -> {
            x.seed(seed);
            return 0;
        });
    }

    static void days(int days, Object want) {
        due("days(" + days + ")", want, () -> x.days(days));
    }

    static void undo(boolean want) {
        due("undo()", want ? 1 : 0, () -> x.undo() ? 1 : 0);
    }

    static void clerk(int from, int to, int i, Object want) {
        due("clerk(" + from + ", " + to + ", " + i + ")", want, () -> x.clerk(from, to, i));
    }

    static void lost(int from, int to, int i, Object upper, Object lower) {
        due("lost(" + from + ", " + to + ", " + i + ", 0)", upper, () -> x.lost(from, to, i, 0));
        due("lost(" + from + ", " + to + ", " + i + ", 1)", lower, () -> x.lost(from, to, i, 1));
    }

    static void night(int day, int town, int play, Object want) {
        due("night(" + day + ", " + town + ", " + play + ")", want, () -> x.night(day, town, play));
    }

    static void forget() {
        answerOf(() -> {
            x.forget();
            return 0;
        });
    }

    static void tour(int want) {
        due("tour()", want, () -> x.tour());
    }

    static void rides(Object... want) {
        for (int trunk = 0; trunk < want.length; trunk++) {
            int t = trunk;
            due("rides(" + t + ")", want[t], () -> x.rides(t));
        }
    }

    static void spared(Object trunk, Object price) {
        due("spared(0)", trunk, () -> x.spared(0));
        due("spared(1)", price, () -> x.spared(1));
    }

    static void unopened(int play, int town, int a, int b, int c, Object want) {
        due("unopened(" + play + ", " + town + ", " + a + ", " + b + ", " + c + ")", want,
                () -> x.unopened(play, town, a, b, c));
    }

    static void image() {
        answerOf(() -> {
            x.image();
            return 0;
        });
    }

    static void restore(boolean want) {
        due("restore()", want ? 1 : 0, () -> x.restore() ? 1 : 0);
    }
}
