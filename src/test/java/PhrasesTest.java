/** Promises 7, 13, 14, 17: ideal, phrases, phrase, pause. */
public final class PhrasesTest {
    public static void main(String[] args) {
        ideal();
        idealIsForAllReadings();
        costs();
        equalCosts();
        accents();
        wrongPhrases();
        pauses();
        Check.end();
    }

    private static void ideal() {
        VoiceShaper x = Check.sentence("2 0 0, 2 0 0, 2 0 0, 2 0 0");
        Check.due("6 at first", x.phrase(0, 4), 4);
        for (int n : new int[] {0, -1, 21, Integer.MAX_VALUE, Integer.MIN_VALUE}) {
            Check.no("ideal(" + n + ")", x.ideal(n));
        }
        Check.due("as before", x.phrase(0, 4), 4);
        Check.yes("ideal(1)", x.ideal(1));
        Check.due("four phrases", x.phrases(), 4);
        Check.due("their cost", x.phrase(3, 4), 4 + 3);
        Check.yes("ideal(20)", x.ideal(20));
        Check.due("one phrase", x.phrases(), 1);
        Check.due("its cost", x.phrase(0, 4), 144);
    }

    private static void idealIsForAllReadings() {
        VoiceShaper x = Check.sentence("2 0 0, 2 0 0");
        x.reading();
        x.ideal(2);
        Check.due("the new one", x.phrases(), 2);
        x.take(0);
        Check.due("the old one", x.phrases(), 2);
        Check.due("alike", x.apart(0, 1), -1);
    }

    private static void costs() {
        VoiceShaper x = Check.sentence("3 0 3, 3 0 9, 3 0 2, 3 0 99");
        // One: 36. 3|9: 9 + 9 + 4. 6|6: 0 + 0 + 10. 9|3: 9 + 9 + 3.
        Check.due("6 and 6", x.phrases(), 2);
        Check.due("cost", x.phrase(0, 4), 10);
        Check.due("first word", x.phrase(1, 0), 2);
        x.change(1, 3, 0, 25, false, false);
        // 6|6: 26. 3|9: 22. 9|3: 21.
        Check.due("9 and 3", x.phrase(0, 2), 9);
        Check.due("cost told of the second, too", x.phrase(1, 4), 21);
        Check.due("words of the first", x.phrase(0, 1), 3);
        Check.due("words of the second", x.phrase(1, 1), 1);
        Check.due("syllables of the second", x.phrase(1, 2), 3);
        x.change(3, 3, 0, 0, false, false);
        Check.due("the bond of the last word costs nothing", x.phrase(1, 4), 21);
    }

    private static void equalCosts() {
        // 3|9 and 9|3 cost the same: the first shall have the most WORDS.
        VoiceShaper x = Check.sentence("3 0 0, 3 0 99, 3 0 0, 3 0 0");
        Check.due("two", x.phrases(), 2);
        Check.due("the first has three words", x.phrase(0, 1), 3);
        Check.due("cost", x.phrase(0, 4), 19);
        // 1 and 1|1: one phrase of 2 costs 1, two of 1 cost 1, too.
        VoiceShaper y = Check.sentence("1 0 0, 1 0 0");
        y.ideal(1);
        Check.due("one of two words", y.phrases(), 1);
        Check.due("cost of it", y.phrase(0, 4), 1);
        // 5 | 3 | 9 and 5 | 9 | 3 cost the same: the second shall have the most WORDS, too.
        VoiceShaper z = Check.sentence("5 0 0, 3 0 12, 3 0 99, 3 0 12, 3 0 0");
        z.ideal(5);
        Check.due("three", z.phrases(), 3);
        Check.due("one word", z.phrase(0, 1), 1);
        Check.due("three words", z.phrase(1, 1), 3);
        Check.due("one at last", z.phrase(2, 1), 1);
        Check.due("their cost", z.phrase(2, 4), 4 + 16 + 1 + 13);
    }

    private static void accents() {
        VoiceShaper x = Check.sentence("2 1 0 c, 2 0 0 nc, 2 0 0 n");
        Check.rules(x, "set power accent ;");
        Check.due("all contrasted ones", x.phrase(0, 3), 2);
        Check.row("their stressed syllables", x, 2, 0, 1, 1, 0, 0, 0);
        VoiceShaper y = Check.sentence("2 1 0 n, 2 1 0 n, 2 0 0");
        Check.rules(y, "set power accent ;");
        Check.due("the last new one", y.phrase(0, 3), 1);
        Check.row("the last new one", y, 2, 0, 0, 0, 1, 0, 0);
        VoiceShaper z = Check.sentence("2 1 0, 2 1 0, 2 1 0");
        Check.rules(z, "set power accent ;");
        Check.due("the last word", z.phrase(0, 3), 1);
        Check.row("the last word", z, 2, 0, 0, 0, 0, 0, 1);
        z.ideal(2);
        Check.row("each phrase has its own", z, 2, 0, 1, 0, 1, 0, 1);
        z.change(1, 2, 0, 0, false, true);
        Check.row("a change", z, 2, 0, 1, 1, 0, 0, 1);
    }

    private static void wrongPhrases() {
        VoiceShaper x = Check.sentence("5 0 0, 5 0 0");
        Check.due("two", x.phrases(), 2);
        int[][] others = {{-1, 0}, {2, 0}, {2, 4}, {-1, 4}, {0, -1}, {0, 5}, {1, 5}, {Integer.MAX_VALUE, 0},
            {Integer.MIN_VALUE, 0}, {0, Integer.MAX_VALUE}, {0, Integer.MIN_VALUE}};
        for (int[] o : others) {
            Check.due("phrase(" + o[0] + ", " + o[1] + ")", x.phrase(o[0], o[1]), -1);
        }
    }

    private static void pauses() {
        VoiceShaper x = Check.sentence("1 0 0, 1 0 0, 2 0 0, 3 0 0, 5 0 0");
        Check.due("phrases", x.phrases(), 2);
        Check.due("7 of 7", x.pause(0, 1000), 1000);
        x.ideal(1);
        // 2 | 2 | 3 | 5 costs 1 + 1 + 4 + 16 + 3, with the first two parted 0 + 0 + 1 + 4 + 16 + 4.
        Check.due("phrases", x.phrases(), 4);
        // 10 * 2, 2, 3 / 7: 2 (6), 2 (6), 4 (2): the first two have the greatest rests.
        Check.due("pause(0, 10)", x.pause(0, 10), 3);
        Check.due("pause(1, 10)", x.pause(1, 10), 3);
        Check.due("pause(2, 10)", x.pause(2, 10), 4);
        // 1 * 2, 2, 3 / 7: 0 (2), 0 (2), 0 (3).
        Check.due("pause(0, 1)", x.pause(0, 1), 0);
        Check.due("pause(1, 1)", x.pause(1, 1), 0);
        Check.due("pause(2, 1)", x.pause(2, 1), 1);
        // 2 * 2, 2, 3 / 7: 0 (4), 0 (4), 0 (6): of equal ones the first.
        Check.due("pause(0, 2)", x.pause(0, 2), 1);
        Check.due("pause(1, 2)", x.pause(1, 2), 0);
        Check.due("pause(2, 2)", x.pause(2, 2), 1);
        Check.due("pause(0, 0)", x.pause(0, 0), 0);
        int[][] others = {{3, 5}, {4, 5}, {-1, 5}, {0, -1}, {0, 1001}, {Integer.MAX_VALUE, 5},
            {Integer.MIN_VALUE, 5}, {0, Integer.MAX_VALUE}, {0, Integer.MIN_VALUE}};
        for (int[] o : others) {
            Check.due("pause(" + o[0] + ", " + o[1] + ")", x.pause(o[0], o[1]), -1);
        }
        VoiceShaper one = Check.sentence("5 0 0");
        Check.due("one phrase has no pause", one.pause(0, 5), -1);
    }
}
