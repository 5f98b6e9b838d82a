import java.util.ArrayList;
import java.util.List;

/** Compares answers with what is due; end() leaves with exit code 1 if one was wrong. */
final class Check {
    private static int asked = 0;
    private static int wrong = 0;
    private static final List<String> QUOTES = new ArrayList<>();
    private static String about = "";

    private Check() {
    }

    static void due(String what, long got, long want) {
        asked++;
        if (got != want) {
            wrong(what + " answered " + got + ", due is " + want);
        }
    }

    static void same(String what, String got, String want) {
        asked++;
        if (!got.equals(want)) {
            wrong(what + ":\n  answered " + got + "\n  due is   " + want);
        }
    }

    private static void wrong(String what) {
        wrong++;
        System.out.println(about + what);
    }

    /** Begins the test of one sentence of the document; what is wrong from here on is told with it. */
    static void quote(String sentence) {
        QUOTES.add(sentence);
        about = "[" + sentence + "] ";
    }

    /** Ends the last of these tests, and tells the sentences of all. */
    static List<String> endQuotes() {
        about = "";
        return QUOTES;
    }

    static void yes(String what, boolean got) {
        due(what, got ? 1 : 0, 1);
    }

    static void no(String what, boolean got) {
        due(what, got ? 1 : 0, 0);
    }

    /** One row of shape: the answers to shape(0, what), shape(1, what) and so on, and none behind them. */
    static void row(String about, VoiceShaper x, int what, int... want) {
        for (int i = 0; i < want.length; i++) {
            due(about + ": shape(" + i + ", " + what + ")", shape(x, i, what), want[i]);
        }
        throwsNone(about, x, want.length, what);
    }

    static int shape(VoiceShaper x, int syllable, int what) {
        try {
            return x.shape(syllable, what);
        } catch (java.util.NoSuchElementException e) {
            return Integer.MIN_VALUE;
        }
    }

    static void throwsNone(String about, VoiceShaper x, int syllable, int what) {
        due(about + ": shape(" + syllable + ", " + what + ") throws", shape(x, syllable, what), Integer.MIN_VALUE);
    }

    /** Feeds a text of any length, 24 signs a call, and tells the last answer. */
    static int feed(VoiceShaper x, String text) {
        int answer = x.count(6);
        for (int at = 0; at < text.length(); at += 24) {
            answer = x.feed(pack(text, at), pack(text, at + 8), pack(text, at + 16));
        }
        return answer;
    }

    static long pack(String text, int at) {
        long eight = 0;
        for (int i = at; i < at + 8; i++) {
            eight = eight << 8 | (i < text.length() ? text.charAt(i) & 255 : 0);
        }
        return eight;
    }

    static int rules(VoiceShaper x, String text) {
        feed(x, text);
        return x.rules();
    }

    /** Words told as "syllables stress bond" with n (new) and c (contrasted) behind, joined by commas. */
    static VoiceShaper sentence(String words) {
        VoiceShaper x = new VoiceShaper();
        for (String word : words.split(",")) {
            String[] part = word.trim().split(" ");
            String flags = part.length > 3 ? part[3] : "";
            x.word(Integer.parseInt(part[0]), Integer.parseInt(part[1]), Integer.parseInt(part[2]),
                    flags.contains("n"), flags.contains("c"));
        }
        return x;
    }

    static void end() {
        System.out.println(wrong == 0 ? asked + " answers are as due" : wrong + " answers are not as due");
        if (wrong != 0) {
            System.exit(1);
        }
    }
}
