/** Edges of phrases: part 1 of the terms, pauses of part 4, promises 7, 13, 14, 17. */
final class PhraseEdges {
    private static final int MOST = Integer.MAX_VALUE;
    private static final int LEAST = Integer.MIN_VALUE;

    private PhraseEdges() {
    }

    static void all() {
        oneWordAtLeast();
        costIsTheSquare();
        idealIs1To20();
        endsCost();
        leastCost();
        equalCosts();
        contrastedOnes();
        lastNewOne();
        lastWord();
        idealAndItsEdges();
        howManyPhrases();
        ofAPhrase();
        noSuchPhrase();
        totalOfPauses();
        pausesAreCut();
        greatestRests();
        noSuchPause();
    }

    private static VoiceShaper alike(int words, int syllables, int bond) {
        VoiceShaper x = new VoiceShaper();
        for (int n = 0; n < words; n++) {
            x.word(syllables, 0, bond, false, false);
        }
        return x;
    }

    private static void oneWordAtLeast() {
        Check.quote("PHRASES part the WORDS, in order, one WORD at least each.");
        VoiceShaper x = alike(16, 5, 0);
        x.ideal(1);
        Check.due("each word alone", x.phrases(), 16);
        for (int k = 0; k < 16; k++) {
            Check.due("first word of " + k, x.phrase(k, 0), k);
            Check.due("words of " + k, x.phrase(k, 1), 1);
        }
        VoiceShaper y = alike(16, 1, 0);
        y.ideal(20);
        Check.due("all words in one", y.phrases(), 1);
        Check.due("its first word", y.phrase(0, 0), 0);
        Check.due("its words", y.phrase(0, 1), 16);
        VoiceShaper z = alike(1, 5, 0);
        z.ideal(1);
        Check.due("one word is one phrase", z.phrases(), 1);
        Check.due("its word", z.phrase(0, 1), 1);
    }

    private static void costIsTheSquare() {
        Check.quote("The cost: for each PHRASE the square of how far its SYLLABLES are from the ideal");
        int[][] wants = {{1, 20, 361}, {1, 2, 1}, {1, 1, 0}, {5, 1, 16}, {5, 4, 1}, {5, 5, 0}, {5, 6, 1}, {5, 20, 225}};
        for (int[] want : wants) {
            VoiceShaper x = alike(1, want[0], 50);
            x.ideal(want[1]);
            Check.due("cost of " + want[0] + " where " + want[1] + " is the ideal", x.phrase(0, 4), want[2]);
        }
        VoiceShaper two = Check.sentence("5 0 0, 2 0 0");
        two.ideal(3);
        // 5 | 2: 4 + 1 + 1; 7: 16.
        Check.due("for each phrase", two.phrase(0, 4), 6);
    }

    private static void idealIs1To20() {
        Check.quote("(1 .. 20, 6 at first),");
        VoiceShaper x = alike(1, 1, 0);
        Check.due("6 at first", x.phrase(0, 4), 25);
        int cost = 25;
        for (int n : new int[] {0, 21, 1, 0, -1, LEAST, 20, 21, MOST}) {
            boolean right = n >= 1 && n <= 20;
            Check.due("ideal(" + n + ")", x.ideal(n) ? 1 : 0, right ? 1 : 0);
            cost = right ? (1 - n) * (1 - n) : cost;
            Check.due("cost behind ideal(" + n + ")", x.phrase(0, 4), cost);
        }
    }

    private static void endsCost() {
        Check.quote("for each end of a PHRASE but the last 1 + the BOND there.");
        VoiceShaper free = Check.sentence("5 0 0, 5 0 99");
        free.ideal(5);
        Check.due("two phrases", free.phrases(), 2);
        Check.due("an end with bond 0 costs 1, the last nothing", free.phrase(0, 4), 1);
        VoiceShaper bound = alike(4, 5, 99);
        bound.ideal(1);
        // 20: 361; 10 | 10: 81 + 81 + 100; 5 | 15: 16 + 196 + 100; 5 | 5 | 10: 113 + 200; all: 64 + 300.
        Check.due("two phrases, too", bound.phrases(), 2);
        Check.due("an end with bond 99 costs 100", bound.phrase(1, 4), 262);
        VoiceShaper one = alike(1, 5, 99);
        one.ideal(5);
        Check.due("one phrase has the last end alone", one.phrase(0, 4), 0);
        VoiceShaper all = alike(16, 5, 0);
        all.ideal(5);
        Check.due("15 ends", all.phrase(0, 4), 15);
    }

    private static final String LEAST_COST = "THE PHRASES: of the least cost; of equal ones that whose first PHRASE "
            + "has the most WORDS, then the second, and so on.";

    private static void leastCost() {
        Check.quote(LEAST_COST);
        // 6 | 6: 1 + the bond; 3 | 9: 18 + 4; 9 | 3: 18 + 3; 3 | 3 | 6 and the like: 18 + two ends.
        parts(3 + 18, 6, "3 0 3, 3 0 21, 3 0 2, 3 0 0", 3, 1);
        parts(20, 6, "3 0 3, 3 0 19, 3 0 2, 3 0 0", 2, 2);
        parts(4 + 18, 6, "3 0 3, 3 0 22, 3 0 4, 3 0 0", 1, 3);
    }

    private static void equalCosts() {
        Check.quote(LEAST_COST);
        // 2: 1; 1 | 1: 0 + 1.
        parts(1, 1, "1 0 0, 1 0 0", 2);
        // 9 | 3 and 6 | 6 and 3 | 9.
        parts(21, 6, "3 0 2, 3 0 20, 3 0 2, 3 0 0", 3, 1);
        // 6 | 6 and 3 | 9.
        parts(22, 6, "3 0 3, 3 0 21, 3 0 4, 3 0 0", 2, 2);
        // 5 | 9 | 3 and 5 | 3 | 9.
        parts(34, 5, "5 0 0, 3 0 12, 3 0 99, 3 0 12, 3 0 0", 1, 3, 1);
        // 5 | 5 | 9 | 3 and 5 | 5 | 3 | 9.
        parts(35, 5, "5 0 0, 5 0 0, 3 0 12, 3 0 99, 3 0 12, 3 0 0", 1, 1, 3, 1);
        // By two, and any one phrase may have three.
        parts(2, 2, "1 0 0, 1 0 0, 1 0 0, 1 0 0, 1 0 0", 3, 2);
        parts(7, 2, "1 0 0, 1 0 0, 1 0 0, 1 0 0, 1 0 0, 1 0 0, 1 0 0, 1 0 0, 1 0 0, 1 0 0, 1 0 0, 1 0 0, 1 0 0, 1 0 0, "
                + "1 0 0", 3, 2, 2, 2, 2, 2, 2);
        // By two, and any one may have one; the end is the last place for it.
        parts(7, 2, "1 0 99, 1 0 0, 1 0 99, 1 0 0, 1 0 99, 1 0 0, 1 0 99, 1 0 0, 1 0 99, 1 0 0, 1 0 99, 1 0 0, 1 0 99, "
                + "1 0 0, 1 0 99, 1 0 99", 2, 2, 2, 2, 2, 2, 2, 2);
    }

    private static void parts(int cost, int ideal, String words, int... want) {
        VoiceShaper x = Check.sentence(words);
        x.ideal(ideal);
        Check.due("phrases of " + words, x.phrases(), want.length);
        Check.due("cost of " + words, x.phrase(0, 4), cost);
        for (int k = 0; k < want.length; k++) {
            Check.due("words of " + k + " in " + words, x.phrase(k, 1), want[k]);
        }
    }

    private static void contrastedOnes() {
        Check.quote("ACCENTED WORDS of a PHRASE: all CONTRASTED ones;");
        accents("1 0 0 c, 1 0 0 c, 1 0 0 nc, 1 0 0 c", 4, 1, 1, 1, 1);
        accents("1 0 0 c, 1 0 0 n, 1 0 0 n, 1 0 0", 1, 1, 0, 0, 0);
        accents("1 0 0 n, 1 0 0 n, 1 0 0, 1 0 0 c", 1, 0, 0, 0, 1);
        accents("1 0 0 nc, 1 0 0, 1 0 0 c, 1 0 0 n", 2, 1, 0, 1, 0);
        VoiceShaper x = Check.sentence("5 0 0, 5 0 0 c");
        Check.due("one of another phrase is none", x.phrase(0, 3), 1);
        Check.rules(x, "set power accent;");
        Check.due("the last word of the first phrase", Check.shape(x, 0, 2), 1);
    }

    private static void lastNewOne() {
        Check.quote("if there is none the last NEW one;");
        accents("1 0 0 n, 1 0 0, 1 0 0, 1 0 0", 1, 1, 0, 0, 0);
        accents("1 0 0 n, 1 0 0 n, 1 0 0, 1 0 0", 1, 0, 1, 0, 0);
        accents("1 0 0 n, 1 0 0 n, 1 0 0 n, 1 0 0 n", 1, 0, 0, 0, 1);
    }

    private static void lastWord() {
        Check.quote("if there is none of that, too, the last WORD.");
        accents("1 0 0, 1 0 0, 1 0 0, 1 0 0", 1, 0, 0, 0, 1);
        accents("1 0 0", 1, 1);
        VoiceShaper x = Check.sentence("5 0 0, 5 0 0, 5 0 0 n");
        Check.rules(x, "set power accent;");
        for (int k = 0; k < 3; k++) {
            Check.due("accented words of " + k, x.phrase(k, 3), 1);
            Check.due("the accent of " + k, Check.shape(x, 5 * k, 2), 1);
        }
    }

    private static void accents(String words, int many, int... want) {
        VoiceShaper x = Check.sentence(words);
        Check.due("one phrase", x.phrases(), 1);
        Check.due("accented words of " + words, x.phrase(0, 3), many);
        Check.rules(x, "set power accent;");
        Check.row("accents of " + words, x, 2, want);
    }

    private static void idealAndItsEdges() {
        Check.quote("The ideal: true; false: another one.");
        for (int n : new int[] {LEAST, -1, 0, 21, 22, MOST}) {
            Refusal.of("ideal(" + n + ")", 0, x -> x.ideal(n) ? 1 : 0);
        }
        VoiceShaper x = Check.sentence("1 0 0, 1 0 0");
        x.reading();
        Check.yes("ideal(20)", x.ideal(20));
        Check.due("its cost", x.phrase(0, 4), 18 * 18);
        x.take(0);
        Check.due("of the other reading, too", x.phrase(0, 4), 18 * 18);
        Check.yes("ideal(1)", x.ideal(1));
        Check.due("its cost then", x.phrase(0, 4), 1);
    }

    private static void howManyPhrases() {
        Check.quote("How many PHRASES; 0 without WORDS.");
        VoiceShaper x = new VoiceShaper();
        Check.due("without words", x.phrases(), 0);
        x.reading();
        x.word(1, 0, 0, false, false);
        Check.due("with one", x.phrases(), 1);
        x.take(0);
        Check.due("the reading in hand is without", x.phrases(), 0);
        VoiceShaper y = alike(16, 5, 0);
        Check.due("with sixteen", y.phrases(), 16);
        y.ideal(10);
        Check.due("two by two", y.phrases(), 8);
    }

    private static final String PHRASE = "Of a PHRASE, what 0: its first WORD, 1: WORDS, 2: SYLLABLES, "
            + "3: ACCENTED WORDS, 4: the cost of all PHRASES; NONE: none such.";

    private static void ofAPhrase() {
        Check.quote(PHRASE);
        VoiceShaper x = Check.sentence("2 1 0 n, 1 0 1 c, 3 0 50 c, 1 0 0 c");
        x.ideal(3);
        // 3 | 4: 0 + 1 + 2.
        int[][] wants = {{0, 2, 3, 1, 3}, {2, 2, 4, 2, 3}};
        for (int k = 0; k < 2; k++) {
            for (int what = 0; what < 5; what++) {
                Check.due("phrase(" + k + ", " + what + ")", x.phrase(k, what), wants[k][what]);
            }
        }
        VoiceShaper fewer = Check.sentence("1 0 0, 1 0 0");
        fewer.reading();
        fewer.word(1, 0, 0, false, false);
        Check.due("cost of three", fewer.phrase(0, 4), 9);
        fewer.take(0);
        Check.due("cost of two, told behind that of three", fewer.phrase(0, 4), 16);
        VoiceShaper all = alike(16, 5, 0);
        all.ideal(20);
        int[] last = {12, 4, 20, 1, 3};
        for (int what = 0; what < 5; what++) {
            Check.due("phrase(3, " + what + ") of 80 syllables", all.phrase(3, what), last[what]);
        }
    }

    private static void noSuchPhrase() {
        Check.quote(PHRASE);
        for (int what = -1; what <= 5; what++) {
            int asked = what;
            for (int k : new int[] {LEAST, -1, 2, 3, 16, MOST}) {
                Refusal.of("phrase(" + k + ", " + what + ")", VoiceShaper.NONE, x -> x.phrase(k, asked));
            }
            Refusal.of("phrase(0, " + what + ") without words", VoiceShaper.NONE, VoiceShaper::new, x -> x.phrase(0, asked));
            Check.due("phrase(16, " + what + ") of 16", alike(16, 5, 0).phrase(16, what), VoiceShaper.NONE);
        }
        for (int what : new int[] {LEAST, -1, 5, 6, MOST}) {
            Refusal.of("phrase(0, " + what + ")", VoiceShaper.NONE, x -> x.phrase(0, what));
            Refusal.of("phrase(1, " + what + ")", VoiceShaper.NONE, x -> x.phrase(1, what));
        }
        Check.due("phrases of them", Refusal.busy().phrases(), 2);
    }

    /** Phrases of 2, 2, 3 and 5 syllables. */
    private static VoiceShaper fourPhrases() {
        VoiceShaper x = Check.sentence("2 0 0, 2 0 0, 3 0 0, 5 0 0");
        x.ideal(2);
        return x;
    }

    private static void pauses(VoiceShaper x, int total, int... want) {
        for (int k = 0; k < want.length; k++) {
            Check.due("pause(" + k + ", " + total + ")", x.pause(k, total), want[k]);
        }
        Check.due("behind the last of " + total, x.pause(want.length, total), VoiceShaper.NONE);
    }

    private static void totalOfPauses() {
        Check.quote("PAUSES: a total (0 .. 1000) is parted among the ends of all PHRASES but the last by the SYLLABLES "
                + "of the PHRASE ahead:");
        pauses(fourPhrases(), 0, 0, 0, 0);
        pauses(fourPhrases(), 7, 2, 2, 3);
        pauses(fourPhrases(), 994, 284, 284, 426);
        pauses(fourPhrases(), 1000, 286, 286, 428);
        pauses(fourPhrases(), -1, -1, -1, -1);
        pauses(fourPhrases(), 1001, -1, -1, -1);
        pauses(Check.sentence("5 0 0, 5 0 0"), 1000, 1000);
        pauses(Check.sentence("5 0 0, 5 0 0"), 0, 0);
        for (int total = 0; total <= 1000; total++) {
            VoiceShaper x = fourPhrases();
            Check.due("all of " + total, x.pause(0, total) + x.pause(1, total) + x.pause(2, total), total);
        }
    }

    private static void pausesAreCut() {
        Check.quote("total * these / those of all these PHRASES, cut;");
        // 2, 2, 3 of 7: 20, 20, 30 of 70.
        pauses(fourPhrases(), 70, 20, 20, 30);
        // 1: 2/7, 2/7, 3/7; 6: 12/7, 12/7, 18/7.
        pauses(fourPhrases(), 1, 0, 0, 1);
        pauses(fourPhrases(), 6, 2, 2, 2);
        // 4: 8/7, 8/7, 12/7.
        pauses(fourPhrases(), 4, 1, 1, 2);
    }

    private static void greatestRests() {
        Check.quote("what is left one by one to those with the greatest rests, of equal ones the first.");
        // Rests of 2: 4, 4, 6; of 9: 4, 4, 6; of 10: 6, 6, 2; of 5: 3, 3, 1; of 3: 6, 6, 2.
        pauses(fourPhrases(), 2, 1, 0, 1);
        pauses(fourPhrases(), 9, 3, 2, 4);
        pauses(fourPhrases(), 10, 3, 3, 4);
        pauses(fourPhrases(), 5, 2, 1, 2);
        pauses(fourPhrases(), 3, 1, 1, 1);
        VoiceShaper equal = alike(16, 5, 0);
        for (int k = 0; k < 15; k++) {
            Check.due("one of 1 behind " + k, equal.pause(k, 1), k == 0 ? 1 : 0);
            Check.due("14 behind " + k, equal.pause(k, 14), k == 14 ? 0 : 1);
            Check.due("15 behind " + k, equal.pause(k, 15), 1);
            Check.due("16 behind " + k, equal.pause(k, 16), k == 0 ? 2 : 1);
            Check.due("1000 behind " + k, equal.pause(k, 1000), k < 10 ? 67 : 66);
        }
    }

    private static void noSuchPause() {
        Check.quote("The PAUSE behind a PHRASE; NONE: no such one, the last, another total.");
        for (int k : new int[] {LEAST, -1, 3, 4, 16, MOST}) {
            Refusal.of("pause(" + k + ", 5)", VoiceShaper.NONE, PhraseEdges::fourPhrases, x -> x.pause(k, 5));
        }
        for (int total : new int[] {LEAST, -1, 1001, 1002, MOST}) {
            Refusal.of("pause(0, " + total + ")", VoiceShaper.NONE, PhraseEdges::fourPhrases, x -> x.pause(0, total));
        }
        Refusal.of("pause(0, 0) without words", VoiceShaper.NONE, VoiceShaper::new, x -> x.pause(0, 0));
        Refusal.of("pause(0, 0) of one phrase", VoiceShaper.NONE, () -> alike(1, 5, 0), x -> x.pause(0, 0));
        Check.due("behind the one ahead of the last", fourPhrases().pause(2, 7), 3);
    }
}
