import java.util.Random;

/** All promises: random runs of calls, with the answers of the Model being due. */
public final class ModelTest {
    private static final int RUNS = 300;
    private static final int CALLS = 512;
    private static final String[] TOKENS = {"length", "height", "power", "place", "left", "stress", "accent", "new",
        "contrast", "phrase", "final", "word", "tune", "set", "add", "when", "and", "(", ")", "<", "=", "+", "-", ";",
        "0", "7", "9999", "12345", "contrasts", "x", "*", "A", "lengthen", "\n", " "};
    private static final int[] EDGES = {Integer.MIN_VALUE, -1000, -2, -1, 100, 101, 1001, Integer.MAX_VALUE};

    private final Random random;
    private final VoiceShaper x = new VoiceShaper();
    private final Model model = new Model();
    private final String about;
    private final int mostWords;

    private ModelTest(int seed) {
        random = new Random(seed);
        about = "run " + seed + ": ";
        mostWords = 1 + random.nextInt(seed % 30 == 0 ? 16 : 9);
    }

    public static void main(String[] args) {
        int from = args.length > 0 ? Integer.parseInt(args[0]) : 0;
        int runs = args.length > 1 ? Integer.parseInt(args[1]) : RUNS;
        for (int seed = from; seed < from + runs; seed++) {
            ModelTest test = new ModelTest(seed);
            for (int call = 0; call < CALLS; call++) {
                test.call();
            }
        }
        Check.end();
    }

    /** A number from 0 to most; one in twelve is beyond. */
    private int upTo(int most) {
        int kind = random.nextInt(24);
        return kind == 0 ? EDGES[random.nextInt(EDGES.length)] : kind == 1 ? most + 1 : random.nextInt(most + 1);
    }

    private boolean maybe() {
        return random.nextInt(3) == 0;
    }

    private void call() {
        switch (random.nextInt(20)) {
            case 0, 1 -> word();
            case 2 -> change();
            case 3 -> readings();
            case 4 -> settings();
            case 5 -> manner();
            case 6 -> rules();
            case 7, 8, 9 -> hand();
            case 10, 11 -> phrase();
            case 12 -> pause();
            case 13 -> apart();
            case 14 -> counts();
            default -> shape();
        }
    }

    private void word() {
        int n = upTo(5);
        int s = random.nextInt(Math.max(1, Math.min(n, 5)));
        int stress = random.nextInt(12) == 0 ? upTo(5) : s;
        int bond = random.nextInt(2) == 0 ? upTo(99) : upTo(5);
        boolean isNew = maybe();
        boolean contrast = maybe();
        if (model.count(2) < mostWords || mostWords > 14 && random.nextInt(4) == 0) {
            Check.due(about + "word", x.word(n, stress, bond, isNew, contrast),
                    model.word(n, stress, bond, isNew, contrast));
        }
    }

    private void change() {
        int w = upTo(Math.max(0, model.count(2) - 1));
        int n = upTo(5);
        int stress = random.nextInt(Math.max(1, Math.min(n, 5)));
        int bond = random.nextInt(2) == 0 ? upTo(99) : upTo(5);
        boolean isNew = maybe();
        boolean contrast = maybe();
        Check.due(about + "change", x.change(w, n, stress, bond, isNew, contrast) ? 1 : 0,
                model.change(w, n, stress, bond, isNew, contrast) ? 1 : 0);
    }

    private void readings() {
        if (random.nextInt(3) == 0) {
            Check.due(about + "reading()", x.reading(), model.reading());
        } else {
            int r = upTo(3);
            Check.due(about + "take " + r, x.take(r) ? 1 : 0, model.take(r) ? 1 : 0);
        }
    }

    private void settings() {
        int t = upTo(3);
        int n = upTo(20);
        int p = random.nextInt(2) == 0 ? upTo(100) : 1;
        int q = random.nextInt(2) == 0 ? upTo(100) : 1;
        switch (random.nextInt(3)) {
            case 0 -> Check.due(about + "tune " + t, x.tune(t) ? 1 : 0, model.tune(t) ? 1 : 0);
            case 1 -> Check.due(about + "ideal " + n, x.ideal(n) ? 1 : 0, model.ideal(n) ? 1 : 0);
            default -> Check.due(about + "speed " + p + " of " + q, x.speed(p, q) ? 1 : 0, model.speed(p, q) ? 1 : 0);
        }
    }

    private void manner() {
        int m = upTo(3);
        int low = upTo(60);
        int high = upTo(99);
        int slope = upTo(random.nextInt(2) == 0 ? 12 : 99);
        Check.due(about + "manner", x.manner(m, low, high, slope) ? 1 : 0, model.manner(m, low, high, slope) ? 1 : 0);
    }

    private void rules() {
        String text = text();
        for (int at = 0; at < text.length(); at += 24) {
            long a = Check.pack(text, at);
            long b = Check.pack(text, at + 8);
            long c = Check.pack(text, at + 16);
            Check.due(about + "feed", x.feed(a, b, c), model.feed(a, b, c));
        }
        if (random.nextInt(8) == 0) {
            long a = random.nextLong();
            Check.due(about + "feed " + a, x.feed(a, ~a, a * 31), model.feed(a, ~a, a * 31));
        }
        if (random.nextInt(8) != 0) {
            Check.due(about + "rules of " + text, x.rules(), model.rules());
        }
    }

    private String text() {
        int lines = random.nextInt(6) == 0 ? 22 + random.nextInt(5) : random.nextInt(5);
        StringBuilder text = new StringBuilder();
        for (int n = 0; n < lines; n++) {
            text.append(random.nextBoolean() ? "set " : "add ").append(TOKENS[random.nextInt(3)]).append(' ');
            e(text, lines > 9 ? 4 : 0);
            if (random.nextBoolean()) {
                text.append(" when ");
                e(text, lines > 9 ? 4 : 0);
            }
            text.append(random.nextBoolean() ? ";" : " ;\n");
        }
        if (random.nextInt(3) == 0 && text.length() > 0) {
            int at = random.nextInt(text.length());
            int end = random.nextBoolean() ? at : Math.min(text.length(), at + random.nextInt(9));
            text.replace(at, end, TOKENS[random.nextInt(TOKENS.length)]);
        }
        return text.toString();
    }

    private void e(StringBuilder text, int depth) {
        part(text, depth);
        boolean compared = false;
        for (int n = random.nextInt(4); n > 0; n--) {
            int kind = random.nextInt(compared ? 3 : 5);
            text.append(new String[] {" + ", "-", " and ", "<", " = "}[kind]);
            compared = kind != 2 && (compared || kind > 2);
            part(text, depth);
        }
    }

    private void part(StringBuilder text, int depth) {
        int kind = random.nextInt(8);
        if (kind == 0) {
            text.append(random.nextInt(10000));
        } else if (kind < 3) {
            text.append(random.nextInt(12));
        } else if (kind < 5 && (depth < 4 || depth == 4 && random.nextInt(40) == 0)) {
            text.append('(');
            e(text, depth + 1);
            text.append(')');
        } else {
            text.append(TOKENS[random.nextInt(13)]);
        }
    }

    private void hand() {
        int i = upTo(Math.max(0, model.count(3) - 1));
        int what = upTo(2);
        int v = random.nextInt(4) == 0 ? -1 : upTo(what == 2 ? 9 : 99);
        Check.due(about + "hand", x.hand(i, what, v) ? 1 : 0, model.hand(i, what, v) ? 1 : 0);
    }

    private void phrase() {
        int k = upTo(Math.max(0, model.count(2) / 2));
        int what = upTo(4);
        Check.due(about + "phrases()", x.phrases(), model.phrases());
        Check.due(about + "phrase " + k + ", " + what, x.phrase(k, what), model.phrase(k, what));
    }

    private void pause() {
        int k = upTo(Math.max(0, model.count(2) / 2));
        int total = upTo(random.nextBoolean() ? 20 : 1000);
        Check.due(about + "pause " + k + ", " + total, x.pause(k, total), model.pause(k, total));
    }

    private void apart() {
        int a = upTo(Math.max(0, model.count(0) - 1));
        int b = upTo(Math.max(0, model.count(0) - 1));
        Check.due(about + "apart " + a + ", " + b, x.apart(a, b), model.apart(a, b));
    }

    private void counts() {
        for (int what = -1; what <= 8; what++) {
            Check.due(about + "count " + what, x.count(what), model.count(what));
        }
    }

    private void shape() {
        int i = upTo(Math.max(0, model.count(3) - 1));
        int what = upTo(5);
        int due;
        try {
            due = model.shape(i, what);
        } catch (java.util.NoSuchElementException e) {
            due = Integer.MIN_VALUE;
        }
        Check.due(about + "shape " + i + ", " + what, Check.shape(x, i, what), due);
        Check.due(about + "fit()", x.fit(), model.fit());
    }
}
