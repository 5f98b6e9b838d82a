import java.util.ArrayList;
import java.util.HashMap;
import java.util.List;
import java.util.Map;
import java.util.NoSuchElementException;
import java.util.TreeMap;

/**
 * The document once more, written in another way and without care for speed: all partings are tried, texts are
 * read by a machine of states, and nothing is kept between calls.
 */
final class Model {
    record Word(int syllables, int stress, int bond, boolean isNew, boolean contrast) {
    }

    record Token(String text, int place) {
    }

    record Line(boolean adds, String value, List<String> e, List<String> test) {
    }

    static final class Reading {
        List<Word> words = new ArrayList<>();
        Map<String, Integer> marks = new TreeMap<>();
        int tune = 0;

        int syllables() {
            return words.stream().mapToInt(Word::syllables).sum();
        }
    }

    static final class Manner {
        List<Line> lines = new ArrayList<>();
        int low = 0;
        int high = 99;
        int slope = 99;
    }

    private final List<Reading> readings = new ArrayList<>(List.of(new Reading()));
    private final Manner[] manners = {new Manner(), new Manner(), new Manner(), new Manner()};
    private int hand = 0;
    private int manner = 0;
    private int ideal = 6;
    private int p = 1;
    private int q = 1;
    private StringBuilder tape = new StringBuilder();

    private Reading mine() {
        return readings.get(hand);
    }

    private static boolean in(int n, int least, int most) {
        return least <= n && n <= most;
    }

    private static boolean right(int syllables, int stress, int bond) {
        return in(syllables, 1, 5) && in(stress, 0, syllables - 1) && in(bond, 0, 99);
    }

    int word(int syllables, int stress, int bond, boolean isNew, boolean contrast) {
        if (!right(syllables, stress, bond) || mine().words.size() == 16) {
            return -1;
        }
        mine().words.add(new Word(syllables, stress, bond, isNew, contrast));
        return mine().words.size();
    }

    boolean change(int word, int syllables, int stress, int bond, boolean isNew, boolean contrast) {
        if (!right(syllables, stress, bond) || !in(word, 0, mine().words.size() - 1)) {
            return false;
        }
        Word old = mine().words.set(word, new Word(syllables, stress, bond, isNew, contrast));
        if (old.syllables() != syllables) {
            mine().marks.clear();
        }
        return true;
    }

    int reading() {
        if (readings.size() == 4) {
            return -1;
        }
        Reading r = new Reading();
        r.words = new ArrayList<>(mine().words);
        r.marks = new TreeMap<>(mine().marks);
        r.tune = mine().tune;
        readings.add(r);
        hand = readings.size() - 1;
        return hand;
    }

    boolean take(int reading) {
        if (!in(reading, 0, readings.size() - 1)) {
            return false;
        }
        hand = reading;
        return true;
    }

    boolean tune(int t) {
        if (!in(t, 0, 3)) {
            return false;
        }
        mine().tune = t;
        return true;
    }

    boolean ideal(int n) {
        if (!in(n, 1, 20)) {
            return false;
        }
        ideal = n;
        return true;
    }

    boolean manner(int m, int low, int high, int slope) {
        if (!in(m, 0, 3) || !in(low, 0, 99) || !in(high, 0, 99) || low > high || !in(slope, 1, 99)) {
            return false;
        }
        manner = m;
        manners[m].low = low;
        manners[m].high = high;
        manners[m].slope = slope;
        return true;
    }

    int feed(long a, long b, long c) {
        byte[] bytes = java.nio.ByteBuffer.allocate(24).putLong(a).putLong(b).putLong(c).array();
        for (byte sign : bytes) {
            if ((sign == 10 || sign >= 32 && sign <= 126) && tape.length() < 1000) {
                tape.append((char) sign);
            }
        }
        return tape.length();
    }

    boolean speed(int over, int under) {
        if (!in(over, 1, 100) || !in(under, 1, 100)) {
            return false;
        }
        p = over;
        q = under;
        return true;
    }

    boolean hand(int syllable, int what, int v) {
        if (!in(syllable, 0, mine().syllables() - 1) || !in(what, 0, 2)) {
            return false;
        }
        if (v == -1) {
            mine().marks.remove(what + " " + syllable);
            return true;
        }
        if (!in(v, what == 0 ? 1 : 0, what == 2 ? 9 : 99)) {
            return false;
        }
        mine().marks.put(what + " " + syllable, v);
        return true;
    }

    // ---- texts ----

    private static final List<String> PARTS = List.of("length", "height", "power", "place", "left", "stress",
            "accent", "new", "contrast", "phrase", "final", "word", "tune");

    private static List<Token> tokens(String text) {
        List<Token> all = new ArrayList<>();
        java.util.regex.Matcher m = java.util.regex.Pattern.compile("[a-z]+|[0-9]+|[^ \n]").matcher(text);
        while (m.find()) {
            String t = m.group();
            boolean none = t.matches("[a-z]{9,}|[0-9]{5,}|[^a-z0-9()<=+;-]");
            all.add(new Token(none ? "?" : t, m.start()));
        }
        all.add(new Token("END", text.length()));
        return all;
    }

    int rules() {
        String text = tape.toString();
        tape = new StringBuilder();
        List<Line> lines = new ArrayList<>();
        int fault = read(tokens(text), lines);
        if (fault == 0) {
            manners[manner].lines = lines;
        }
        return fault;
    }

    /** States: 0 a line's first token, 1 its value, 2 a part, 3 behind a part. */
    private static int read(List<Token> tokens, List<Line> lines) {
        int state = 0;
        boolean adds = false;
        String value = "";
        boolean when = false;
        List<Boolean> compared = new ArrayList<>();
        List<String> e = new ArrayList<>();
        List<String> test = new ArrayList<>();
        for (Token token : tokens) {
            String t = token.text();
            int kind = 0;
            if (state == 0) {
                if (t.equals("END")) {
                    return 0;
                }
                kind = !t.equals("set") && !t.equals("add") ? 1 : lines.size() == 24 ? 5 : 0;
                adds = t.equals("add");
                state = 1;
            } else if (state == 1) {
                kind = PARTS.indexOf(t) < 0 || PARTS.indexOf(t) > 2 ? 1 : 0;
                value = t;
                when = false;
                e = new ArrayList<>();
                test = new ArrayList<>();
                compared = new ArrayList<>(List.of(false));
                state = 2;
            } else if (state == 2) {
                boolean part = t.equals("(") || t.matches("[0-9]+") || PARTS.contains(t);
                kind = !part ? 1 : compared.size() > 5 ? 5 : 0;
                if (t.equals("(")) {
                    compared.add(false);
                } else {
                    state = 3;
                }
                (when ? test : e).add(t);
            } else {
                int last = compared.size() - 1;
                if (t.equals("+") || t.equals("-")) {
                    state = 2;
                } else if ((t.equals("<") || t.equals("=")) && !compared.get(last)) {
                    compared.set(last, true);
                    state = 2;
                } else if (t.equals("and")) {
                    compared.set(last, false);
                    state = 2;
                } else if (t.equals(")") && last > 0) {
                    compared.remove(last);
                } else if (t.equals("when") && last == 0 && !when) {
                    compared.set(0, false);
                    state = 2;
                } else if (t.equals(";") && last == 0) {
                    lines.add(new Line(adds, value, e, test));
                    state = 0;
                } else {
                    kind = 1;
                }
                if (t.equals("when")) {
                    when = true;
                } else if (!t.equals(";")) {
                    (when ? test : e).add(t);
                }
            }
            if (kind != 0) {
                return kind + 16 * token.place();
            }
        }
        throw new IllegalStateException("no end");
    }

    /** Works an E out by cutting it at its outermost and, comparison, last sum sign, in this order. */
    private static int work(List<String> e, Map<String, Integer> facts) {
        int and = lastOutside(e, "and", "and");
        if (and >= 0) {
            int left = work(e.subList(0, and), facts);
            int right = work(e.subList(and + 1, e.size()), facts);
            return left != 0 && right != 0 ? 1 : 0;
        }
        int compare = lastOutside(e, "<", "=");
        if (compare >= 0) {
            int left = work(e.subList(0, compare), facts);
            int right = work(e.subList(compare + 1, e.size()), facts);
            return (e.get(compare).equals("<") ? left < right : left == right) ? 1 : 0;
        }
        int sum = lastOutside(e, "+", "-");
        if (sum >= 0) {
            int left = work(e.subList(0, sum), facts);
            int right = work(e.subList(sum + 1, e.size()), facts);
            return e.get(sum).equals("+") ? left + right : left - right;
        }
        if (e.get(0).equals("(")) {
            return work(e.subList(1, e.size() - 1), facts);
        }
        return facts.containsKey(e.get(0)) ? facts.get(e.get(0)) : Integer.parseInt(e.get(0));
    }

    private static int lastOutside(List<String> e, String one, String other) {
        int depth = 0;
        for (int i = e.size() - 1; i >= 0; i--) {
            String t = e.get(i);
            depth += t.equals(")") ? 1 : t.equals("(") ? -1 : 0;
            if (depth == 0 && (t.equals(one) || t.equals(other))) {
                return i;
            }
        }
        return -1;
    }

    // ---- phrases ----

    /** The words of each phrase, and the cost at the end. */
    private List<Integer> parting(Reading r) {
        int n = r.words.size();
        List<Integer> best = new ArrayList<>();
        for (int cuts = 0; n > 0 && cuts < 1 << n - 1; cuts++) {
            List<Integer> phrases = new ArrayList<>();
            int cost = 0;
            int words = 0;
            int syllables = 0;
            for (int w = 0; w < n; w++) {
                words++;
                syllables += r.words.get(w).syllables();
                if (w == n - 1 || (cuts >> w & 1) == 1) {
                    cost += (syllables - ideal) * (syllables - ideal) + (w < n - 1 ? 1 + r.words.get(w).bond() : 0);
                    phrases.add(words);
                    words = 0;
                    syllables = 0;
                }
            }
            phrases.add(cost);
            if (best.isEmpty() || better(phrases, best)) {
                best = phrases;
            }
        }
        return best;
    }

    private static boolean better(List<Integer> a, List<Integer> b) {
        int costA = a.get(a.size() - 1);
        int costB = b.get(b.size() - 1);
        if (costA != costB) {
            return costA < costB;
        }
        for (int i = 0; i < Math.min(a.size(), b.size()) - 1; i++) {
            if (!a.get(i).equals(b.get(i))) {
                return a.get(i) > b.get(i);
            }
        }
        return false;
    }

    private static List<Integer> accented(Reading r, int from, int end) {
        List<Integer> all = new ArrayList<>();
        for (int w = from; w < end; w++) {
            if (r.words.get(w).contrast()) {
                all.add(w);
            }
        }
        for (int w = end - 1; w >= from && all.isEmpty(); w--) {
            if (r.words.get(w).isNew()) {
                all.add(w);
            }
        }
        if (all.isEmpty()) {
            all.add(end - 1);
        }
        return all;
    }

    int phrases() {
        return Math.max(0, parting(mine()).size() - 1);
    }

    int phrase(int k, int what) {
        List<Integer> parting = parting(mine());
        if (!in(k, 0, parting.size() - 2) || !in(what, 0, 4)) {
            return -1;
        }
        int from = 0;
        for (int i = 0; i < k; i++) {
            from += parting.get(i);
        }
        int end = from + parting.get(k);
        int syllables = mine().words.subList(from, end).stream().mapToInt(Word::syllables).sum();
        return new int[] {from, end - from, syllables, accented(mine(), from, end).size(),
            parting.get(parting.size() - 1)}[what];
    }

    int pause(int phrase, int total) {
        int ends = phrases() - 1;
        if (!in(phrase, 0, ends - 1) || !in(total, 0, 1000)) {
            return -1;
        }
        int all = 0;
        for (int k = 0; k < ends; k++) {
            all += phrase(k, 2);
        }
        int[] pauses = new int[ends];
        int[] rests = new int[ends];
        int left = total;
        for (int k = 0; k < ends; k++) {
            pauses[k] = total * phrase(k, 2) / all;
            rests[k] = total * phrase(k, 2) - pauses[k] * all;
            left -= pauses[k];
        }
        for (; left > 0; left--) {
            int greatest = 0;
            for (int k = 1; k < ends; k++) {
                greatest = rests[k] > rests[greatest] ? k : greatest;
            }
            pauses[greatest]++;
            rests[greatest] = -1;
        }
        return pauses[phrase];
    }

    // ---- the shape ----

    private List<Map<String, Integer>> facts(Reading r) {
        List<Map<String, Integer>> all = new ArrayList<>();
        List<Integer> parting = parting(r);
        int from = 0;
        for (int k = 0; k < parting.size() - 1; k++) {
            int end = from + parting.get(k);
            List<Integer> accented = accented(r, from, end);
            int many = r.words.subList(from, end).stream().mapToInt(Word::syllables).sum();
            int place = 0;
            for (int w = from; w < end; w++) {
                Word word = r.words.get(w);
                for (int s = 0; s < word.syllables(); s++, place++) {
                    Map<String, Integer> f = new HashMap<>();
                    f.put("length", 10);
                    f.put("height", 50);
                    f.put("power", 5);
                    f.put("place", place);
                    f.put("left", many - place - 1);
                    f.put("stress", s == word.stress() ? 1 : 0);
                    f.put("accent", s == word.stress() && accented.contains(w) ? 1 : 0);
                    f.put("new", word.isNew() ? 1 : 0);
                    f.put("contrast", word.contrast() ? 1 : 0);
                    f.put("phrase", k);
                    f.put("final", k == parting.size() - 2 ? 1 : 0);
                    f.put("word", w);
                    f.put("tune", r.tune);
                    all.add(f);
                }
            }
            from = end;
        }
        return all;
    }

    private List<Map<String, Integer>> shapeOf(Reading r) {
        List<Map<String, Integer>> all = facts(r);
        for (Line line : manners[manner].lines) {
            for (Map<String, Integer> f : all) {
                if (line.test().isEmpty() || work(line.test(), f) != 0) {
                    int v = work(line.e(), f) + (line.adds() ? f.get(line.value()) : 0);
                    int least = line.value().equals("length") ? 1 : line.value().equals("height") ? -999 : 0;
                    int most = line.value().equals("length") ? 99 : line.value().equals("height") ? 999 : 9;
                    f.put(line.value(), v < least ? least : v > most ? most : v);
                }
            }
        }
        int sum = 0;
        int before = 0;
        for (int i = 0; i < all.size(); i++) {
            Map<String, Integer> f = all.get(i);
            f.put("length", r.marks.getOrDefault("0 " + i, f.get("length")));
            f.put("power", r.marks.getOrDefault("2 " + i, f.get("power")));
            sum += f.get("length");
            f.put("told", sum * p / q - before);
            before = sum * p / q;
        }
        bringHeights(r, all);
        return all;
    }

    private void bringHeights(Reading r, List<Map<String, Integer>> all) {
        Manner m = manners[manner];
        for (int i = 0; i < all.size(); i++) {
            int h = all.get(i).get("height");
            h = h < m.low ? m.low : h > m.high ? m.high : h;
            all.get(i).put("height", r.marks.getOrDefault("1 " + i, h));
        }
        for (int i = 1; i < all.size(); i++) {
            bringNear(r, all, i, i - 1);
        }
        for (int i = all.size() - 2; i >= 0; i--) {
            bringNear(r, all, i, i + 1);
        }
    }

    private void bringNear(Reading r, List<Map<String, Integer>> all, int i, int neighbour) {
        if (r.marks.containsKey("1 " + i)) {
            return;
        }
        int slope = manners[manner].slope;
        int off = all.get(i).get("height") - all.get(neighbour).get("height");
        if (off > slope) {
            all.get(i).put("height", all.get(neighbour).get("height") + slope);
        } else if (off < -slope) {
            all.get(i).put("height", all.get(neighbour).get("height") - slope);
        }
    }

    int shape(int syllable, int what) {
        if (!in(syllable, 0, mine().syllables() - 1) || !in(what, 0, 5)) {
            throw new NoSuchElementException();
        }
        String[] names = {"told", "height", "power", "word", "phrase", "length"};
        return shapeOf(mine()).get(syllable).get(names[what]);
    }

    int fit() {
        List<Map<String, Integer>> all = shapeOf(mine());
        for (int i = 1; i < all.size(); i++) {
            int off = all.get(i).get("height") - all.get(i - 1).get("height");
            if (off > manners[manner].slope || -off > manners[manner].slope) {
                return 0;
            }
        }
        return 1;
    }

    int apart(int a, int b) {
        if (!in(a, 0, readings.size() - 1) || !in(b, 0, readings.size() - 1)) {
            return -2;
        }
        List<String> one = toldOf(readings.get(a));
        List<String> other = toldOf(readings.get(b));
        for (int i = 0; i < Math.max(one.size(), other.size()); i++) {
            if (i >= one.size() || i >= other.size() || !one.get(i).equals(other.get(i))) {
                return i;
            }
        }
        return -1;
    }

    private List<String> toldOf(Reading r) {
        List<Map<String, Integer>> all = shapeOf(r);
        List<String> told = new ArrayList<>();
        for (int i = 0; i < all.size(); i++) {
            boolean ends = i == all.size() - 1 || !all.get(i).get("phrase").equals(all.get(i + 1).get("phrase"));
            told.add(all.get(i).get("told") + " " + all.get(i).get("height") + " " + all.get(i).get("power") + ends);
        }
        return told;
    }

    int count(int what) {
        int[] all = {readings.size(), hand, mine().words.size(), mine().syllables(), manner,
            manners[manner].lines.size(), tape.length(), mine().marks.size()};
        return in(what, 0, 7) ? all[what] : -1;
    }
}
