import java.util.ArrayList;
import java.util.Arrays;
import java.util.List;
import java.util.Random;

/** Long random runs of calls, each answered by the class and by the plain model of the document. */
public final class RandomRunsTest {
    private static final int RUNS = 300;
    private static final int CALLS = 500;
    private static final int TEXTS = 1000;

    private final Random random;
    private final List<String> log = new ArrayList<>();
    private TroupeTrunks real = new TroupeTrunks();
    private PlainModel model = new PlainModel();
    private int wrong = 0;

    private RandomRunsTest(long seed) {
        random = new Random(seed);
    }

    public static void main(String[] args) {
        int wrong = 0;
        for (int run = 0; run < RUNS; run++) {
            RandomRunsTest test = new RandomRunsTest(run);
            test.runCalls(run);
            wrong += test.wrong;
        }
        for (int run = 0; run < TEXTS; run++) {
            RandomRunsTest test = new RandomRunsTest(-1 - run);
            test.tellTexts(run);
            wrong += test.wrong;
        }
        System.out.println(RUNS + " random runs, " + TEXTS + " runs of texts, " + wrong + " with a wrong answer");
        if (wrong != 0) {
            System.exit(1);
        }
    }

    private void runCalls(int run) {
        int calls = 0;
        while (calls < CALLS && wrong == 0) {
            calls += step();
        }
        showWrong(run);
    }

    private void tellTexts(int run) {
        for (int i = 0; i < 12 && wrong == 0; i++) {
            tell(below(3) == 0 ? crowded(text()) : spoiled(text()));
            compareCounts();
        }
        showWrong(run);
    }

    private void showWrong(int run) {
        if (wrong != 0) {
            System.out.println("run " + run + ":");
            for (String line : log.subList(Math.max(0, log.size() - 40), log.size())) {
                System.out.println("  " + line);
            }
        }
    }

    private int below(int n) {
        return random.nextInt(n);
    }

    private static final int[] FAR = {Integer.MIN_VALUE, Integer.MAX_VALUE, -5, 31, 32, 100, 1 << 16, 858993460};

    /** Mostly one of 0 to n - 1, now and then just beside, and once in a while far away. */
    private int near(int n) {
        if (below(100) == 0) {
            return FAR[below(FAR.length)];
        }
        return below(12) == 0 ? below(n + 3) - 2 : below(n);
    }

    private interface Call {
        long answer();
    }

    private static String answerOf(Call call) {
        try {
            return Long.toString(call.answer());
        } catch (RuntimeException e) {
            return "throws." + e.getClass().getSimpleName();
        }
    }

    private String same(String name, Call a, Call b) {
        String got = answerOf(a);
        String due = answerOf(b);
        log.add(name + " -> " + got + (got.equals(due) ? "" : ", due is " + due));
        if (!got.equals(due)) {
            wrong = 1;
        }
        return got;
    }

    private void tell(String text) {
        byte[] bytes = new byte[(text.length() + 19) / 20 * 20];
        Arrays.fill(bytes, (byte) ' ');
        for (int i = 0; i < text.length(); i++) {
            bytes[i] = (byte) text.charAt(i);
        }
        log.add("text " + text.replace('\n', '~'));
        for (int at = 0; at < bytes.length; at += 20) {
            int[] v = new int[5];
            for (int i = 0; i < 20; i++) {
                v[i / 4] = v[i / 4] << 8 | bytes[at + i] & 255;
            }
            same("feed", () -> real.feed(v[0], v[1], v[2], v[3], v[4]), () -> model.feed(v));
        }
        int n = text.length();
        same("told(" + n + ")", () -> real.told(n), () -> model.told(n));
        same("fault()", real::fault, model::fault);
    }

    private String sort() {
        return Integer.toString(below(sorts));
    }

    private int sorts = 5;

    private String text() {
        sorts = 2 + below(6);
        StringBuilder s = new StringBuilder();
        int towns = 1 + below(5);
        for (int i = 0; i < towns; i++) {
            int kind = below(4);
            s.append("town ").append(new String[] {"careful", "drunk ", "slow ", "lazy "}[kind]);
            if (kind > 0) {
                s.append(below(4) == 0 ? 1000 : below(1001));
            }
            if (below(2) == 0) {
                s.append(" lends ").append(below(4)).append(' ').append(below(3) == 0 ? below(100) : below(6));
            }
            s.append(';');
        }
        int trains = 25 - below(25);
        int longest = 1 + below(9);
        for (int pair = 0; pair < 25; pair++) {
            if (pair / 5 != pair % 5 && pair / 5 < towns && pair % 5 < towns && below(25) < trains) {
                s.append("train ").append(pair / 5).append(' ').append(pair % 5).append(' ')
                        .append(1 + below(longest)).append(';');
            }
        }
        int trunks = below(12) == 0 ? 5 : below(5);
        int spread = 1 + below(towns);
        for (int i = 0; i < trunks; i++) {
            s.append("trunk ").append(below(spread)).append(';');
        }
        int things = trunks == 0 ? 0 : below(11);
        for (int i = 0; i < things; i++) {
            s.append("thing ").append(sort()).append(' ').append(below(trunks)).append(';');
        }
        int plays = 1 + below(4);
        for (int i = 0; i < plays; i++) {
            s.append("play ").append(1 + below(12));
            int needs = 1 + below(4);
            for (int j = 0; j < needs; j++) {
                s.append(' ').append(sort());
            }
            s.append(below(2) == 0 ? ";\n" : " ; ");
        }
        for (int pair = 0; pair < sorts * sorts; pair++) {
            if (pair / sorts != pair % sorts && below(4) == 0) {
                s.append("like ").append(pair / sorts).append(' ').append(pair % sorts).append(' ')
                        .append(below(8)).append(';');
            }
        }
        if (below(2) == 0) {
            s.append("troupe ").append(1 + below(40)).append(';');
        }
        String whole = s.toString();
        while (whole.length() > 680) {
            whole = whole.substring(0, whole.lastIndexOf(';', whole.length() - 2) + 1);
        }
        return whole;
    }

    private static final String[] ODD = {
        "town", "train", "trunk", "thing", "play", "like", "troupe", "lends", "careful", "drunk", "slow", "lazy",
        ";", "0", "1", "4", "5", "19", "20", "99", "100", "1000", "1001", "9999", "10000", "00001", "0001", "A",
        "\t", "\u00e9", "x", " ", "\n", "town careful;", "trunk 0;", "thing 1 0;", "play 1 1;", "like 1 2 3;",
        "troupe 7;", "train 0 1 1;", ""
    };

    /** A text with a piece put in, in place of another or between two. */
    private String spoiled(String text) {
        int at = below(text.length() + 1);
        int end = Math.min(text.length(), at + (below(2) == 0 ? 0 : below(6)));
        String whole = text.substring(0, at) + ODD[below(ODD.length)] + text.substring(end);
        return whole.substring(0, Math.min(whole.length(), below(6) == 0 ? below(whole.length() + 1) : 700));
    }

    /** A text with some lines told once more or with other numbers, behind a line of its own. */
    private String crowded(String text) {
        String[] lines = text.split("(?<=;)");
        List<String> all = new ArrayList<>(Arrays.asList(lines));
        for (int i = below(4); i >= 0; i--) {
            String line = lines[below(lines.length)];
            String other = below(2) == 0 ? line : line.replaceFirst(" [0-9]", " " + below(12));
            all.add(below(all.size() + 1), other);
        }
        String whole = String.join("", all);
        return whole.substring(0, Math.min(whole.length(), 700));
    }

    /** More than can be undone. */
    private int manyDays() {
        int calls = 60 + below(60);
        for (int i = 0; i < calls; i++) {
            same("days(0)", () -> real.days(0), () -> model.days(0));
        }
        return calls;
    }

    private int nights() {
        log.add("forget()");
        real.forget();
        model.forget();
        int count = 1 + below(5);
        int day = model.count(5);
        for (int i = 0; i < count; i++) {
            day += below(7);
            int d = day;
            int a = below(Math.max(1, model.count(0)));
            int p = below(Math.max(1, model.count(3)));
            same("night(" + d + ", " + a + ", " + p + ")", () -> real.night(d, a, p), () -> model.night(d, a, p));
        }
        same("tour()", real::tour, model::tour);
        for (int t = 0; t < model.count(1); t++) {
            int trunk = t;
            same("rides(" + t + ")", () -> real.rides(trunk), () -> model.rides(trunk));
        }
        same("spared(0)", () -> real.spared(0), () -> model.spared(0));
        same("spared(1)", () -> real.spared(1), () -> model.spared(1));
        return 14;
    }

    private int step() {
        int kind = below(27 * 16);
        if (log.isEmpty() ? below(8) != 0 : kind < 2) {
            tell(text());
            return 40;
        }
        if (kind < 5) {
            tell(spoiled(text()));
            return 40;
        }
        if (kind < 8) {
            return manyDays();
        }
        if (kind < 27) {
            return nights();
        }
        int a = near(Math.max(1, model.count(0)));
        int b = near(Math.max(1, model.count(0)));
        int t = near(Math.max(1, model.count(1)));
        int p = near(Math.max(1, model.count(3)));
        int what = near(2);
        switch (kind % 27) {
            case 0:
                same("count", () -> real.count(kind % 14 - 1), () -> model.count(kind % 14 - 1));
                break;
            case 1: {
                int w = near(6);
                same("town(" + a + ", " + w + ")", () -> real.town(a, w), () -> model.town(a, w));
                break;
            }
            case 2:
            case 3: {
                int w = near(4);
                same("trunk(" + t + ", " + w + ")", () -> real.trunk(t, w), () -> model.trunk(t, w));
                break;
            }
            case 4:
                same("way(" + a + ", " + b + ")", () -> real.way(a, b), () -> model.way(a, b));
                break;
            case 5:
            case 6: {
                int things = below(8) == 0 ? random.nextInt() >> below(32) : below(1 << below(model.count(2) + 1));
                same("price(" + p + ", " + a + ", " + things + ")",
                        () -> real.price(p, a, things), () -> model.price(p, a, things));
                break;
            }
            case 7:
            case 8: {
                int i = near(4);
                same("filled(" + p + ", " + a + ", " + i + ")",
                        () -> real.filled(p, a, i), () -> model.filled(p, a, i));
                break;
            }
            case 9:
                same("tonight(" + a + ", " + what + ")", () -> real.tonight(a, what), () -> model.tonight(a, what));
                break;
            case 10:
                same("both(" + a + ", " + b + ", " + what + ")",
                        () -> real.both(a, b, what), () -> model.both(a, b, what));
                break;
            case 11:
            case 12:
            case 13:
                same("send(" + t + ", " + b + ")", () -> real.send(t, b), () -> model.send(t, b));
                break;
            case 14: {
                int s = below(2) == 0 ? random.nextInt() : below(100);
                log.add("seed(" + s + ")");
                real.seed(s);
                model.seed(s);
                break;
            }
            case 15:
            case 16: {
                int d = below(20) == 0 ? below(120) - 10 : below(5);
                same("days(" + d + ")", () -> real.days(d), () -> model.days(d));
                break;
            }
            case 17:
                same("undo()", () -> real.undo() ? 1 : 0, () -> model.undo() ? 1 : 0);
                break;
            case 18: {
                int i = below(6) - 2;
                same("clerk(" + a + ", " + b + ", " + i + ")", () -> real.clerk(a, b, i), () -> model.clerk(a, b, i));
                break;
            }
            case 19: {
                int i = near(3);
                same("lost(" + a + ", " + b + ", " + i + ", " + what + ")",
                        () -> real.lost(a, b, i, what), () -> model.lost(a, b, i, what));
                break;
            }
            case 20:
            case 21: {
                int d = below(10) == 0 ? below(120) - 10 : Math.min(99, model.count(5) + below(12) - 1);
                same("night(" + d + ", " + a + ", " + p + ")", () -> real.night(d, a, p), () -> model.night(d, a, p));
                break;
            }
            case 22:
                if (below(3) == 0) {
                    log.add("forget()");
                    real.forget();
                    model.forget();
                } else {
                    same("spared(" + what + ")", () -> real.spared(what), () -> model.spared(what));
                }
                break;
            case 23:
                same("tour()", real::tour, model::tour);
                break;
            case 24:
                same("rides(" + t + ")", () -> real.rides(t), () -> model.rides(t));
                break;
            case 25: {
                int[] g = new int[3];
                for (int i = 0; i < 3; i++) {
                    g[i] = below(3) == 0 ? -1 : below(25) == 0 ? near(2000) : below(8) * 100 + below(4);
                }
                same("unopened(" + p + ", " + a + ", " + Arrays.toString(g) + ")",
                        () -> real.unopened(p, a, g[0], g[1], g[2]), () -> model.unopened(p, a, g));
                break;
            }
            default:
                if (below(2) == 0) {
                    log.add("image()");
                    real.image();
                    model.image();
                } else {
                    same("restore()", () -> real.restore() ? 1 : 0, () -> model.restore() ? 1 : 0);
                }
        }
        compareCounts();
        return 1;
    }

    private void compareCounts() {
        for (int i = 0; i < 13; i++) {
            int c = i;
            if (wrong == 0 && real.count(c) != model.count(c)) {
                same("count(" + c + ")", () -> real.count(c), () -> model.count(c));
            }
        }
    }
}
