/** Edges of readings and words: part 1 of the terms, promises 1 to 6. */
final class ReadingEdges {
    private static final int MOST = Integer.MAX_VALUE;
    private static final int LEAST = Integer.MIN_VALUE;

    private ReadingEdges() {
    }

    static void all() {
        readingsAreFourAtMost();
        wordsAreSixteenAtMost();
        syllablesAreOneToFive();
        stressIsAPlaceInTheWord();
        bondIs0To99();
        newAndContrasted();
        tuneIs0To3();
        aNewObject();
        wordComesBehind();
        wordIsRefused();
        wordIsRefusedWhere16AreThere();
        changeAndItsMarks();
        changeIsRefused();
        readingIsLikeTheOneInHand();
        readingIsRefusedWhere4AreThere();
        takeAndItsEdges();
        tuneAndItsEdges();
    }

    private static void readingsAreFourAtMost() {
        Check.quote("READINGS, 4 at most, are numbered as they come, 0 is there and in hand.");
        VoiceShaper x = new VoiceShaper();
        Check.due("one is there", x.count(0), 1);
        Check.due("0 is in hand", x.count(1), 0);
        for (int n = 1; n <= 3; n++) {
            Check.due("the next number", x.reading(), n);
        }
        Check.due("a fifth one", x.reading(), VoiceShaper.NONE);
        Check.due("4 at most", x.count(0), 4);
        for (int n = 0; n <= 4; n++) {
            Check.due("take(" + n + ")", x.take(n) ? 1 : 0, n < 4 ? 1 : 0);
        }
    }

    private static void wordsAreSixteenAtMost() {
        Check.quote("A READING has WORDS, 16 at most:");
        VoiceShaper x = new VoiceShaper();
        x.reading();
        for (int n = 1; n <= 16; n++) {
            Check.due("a word", x.word(5, 4, 0, false, false), n);
        }
        Check.due("a 17th word", x.word(1, 0, 0, false, false), VoiceShaper.NONE);
        Check.due("words", x.count(2), 16);
        Check.due("syllables of 16 words of 5", x.count(3), 80);
        x.reading();
        Check.due("a 17th word of one like it", x.word(1, 0, 0, false, false), VoiceShaper.NONE);
        x.take(0);
        Check.due("each reading has its own", x.word(1, 0, 0, false, false), 1);
    }

    private static void syllablesAreOneToFive() {
        Check.quote("1 to 5 SYLLABLES,");
        for (int n : new int[] {LEAST, -5, -1, 0, 1, 2, 3, 4, 5, 6, 7, MOST}) {
            boolean right = n >= 1 && n <= 5;
            VoiceShaper x = new VoiceShaper();
            Check.due("a word of " + n, x.word(n, 0, 0, true, true), right ? 1 : VoiceShaper.NONE);
            Check.due("its syllables", x.count(3), right ? n : 0);
            VoiceShaper y = Check.sentence("3 0 0");
            Check.due("changed to " + n, y.change(0, n, 0, 0, true, true) ? 1 : 0, right ? 1 : 0);
            Check.due("its syllables then", y.count(3), right ? n : 3);
        }
    }

    private static void stressIsAPlaceInTheWord() {
        Check.quote("the place of the stressed one,");
        for (int n = 1; n <= 5; n++) {
            for (int stress : new int[] {LEAST, -1, 0, n - 1, n, n + 1, MOST}) {
                boolean right = stress >= 0 && stress < n;
                VoiceShaper x = Check.sentence("5 2 0");
                String about = "stress " + stress + " of " + n;
                Check.due(about, x.word(n, stress, 0, true, true), right ? 2 : VoiceShaper.NONE);
                Check.due(about + ", changed", x.change(0, n, stress, 0, true, true) ? 1 : 0, right ? 1 : 0);
                Check.rules(x, "set power stress;");
                for (int i = 0; right && i < n; i++) {
                    Check.due(about + ": syllable " + i, Check.shape(x, i, 2), i == stress ? 1 : 0);
                    Check.due(about + ": syllable " + (n + i), Check.shape(x, n + i, 2), i == stress ? 1 : 0);
                }
            }
        }
    }

    private static void bondIs0To99() {
        Check.quote("a BOND (0 .. 99) to the WORD behind it,");
        for (int bond : new int[] {LEAST, -1, 0, 1, 98, 99, 100, MOST}) {
            boolean right = bond >= 0 && bond <= 99;
            VoiceShaper x = Check.sentence("1 0 0");
            Check.due("bond " + bond, x.word(1, 0, bond, true, true), right ? 2 : VoiceShaper.NONE);
            Check.due("changed to bond " + bond, x.change(0, 1, 0, bond, true, true) ? 1 : 0, right ? 1 : 0);
        }
        // 5 | 10 and 10 | 5 cost 25 + 1 + the bond there, 5 | 5 | 5 the bonds and 2.
        VoiceShaper first = Check.sentence("5 0 0, 5 0 30, 5 0 99");
        first.ideal(5);
        Check.due("parted behind the first word", first.phrase(0, 1), 1);
        Check.due("cost of it", first.phrase(0, 4), 26);
        VoiceShaper second = Check.sentence("5 0 30, 5 0 0, 5 0 99");
        second.ideal(5);
        Check.due("parted behind the second word", second.phrase(0, 1), 2);
        Check.due("cost of that", second.phrase(0, 4), 26);
    }

    private static void newAndContrasted() {
        Check.quote("and whether it is NEW, CONTRASTED;");
        VoiceShaper x = Check.sentence("1 0 0, 1 0 0 n, 1 0 0 c, 1 0 0 nc");
        Check.rules(x, "set power new + contrast + contrast;");
        Check.row("new 1, contrasted 2", x, 2, 0, 1, 2, 3);
        x.change(0, 1, 0, 0, true, true);
        x.change(3, 1, 0, 0, false, false);
        Check.row("changed", x, 2, 3, 1, 2, 0);
    }

    private static void tuneIs0To3() {
        Check.quote("and a tune (0 to 3, 0 at first).");
        VoiceShaper x = Check.sentence("1 0 0");
        Check.rules(x, "set height 50 + tune;");
        Check.row("0 at first", x, 1, 50);
        int before = 0;
        for (int t : new int[] {3, LEAST, -1, 4, MOST, 0, -1, 4, 1, 2}) {
            boolean right = t >= 0 && t <= 3;
            Check.due("tune(" + t + ")", x.tune(t) ? 1 : 0, right ? 1 : 0);
            before = right ? t : before;
            Check.row("behind tune(" + t + ")", x, 1, 50 + before);
        }
    }

    private static void aNewObject() {
        Check.quote("One READING without WORDS.");
        VoiceShaper x = new VoiceShaper();
        int[] counts = {1, 0, 0, 0, 0, 0, 0, 0};
        for (int what = 0; what < counts.length; what++) {
            Check.due("count(" + what + ")", x.count(what), counts[what]);
        }
        Check.due("phrases()", x.phrases(), 0);
        Check.due("phrase(0, 0)", x.phrase(0, 0), VoiceShaper.NONE);
        Check.due("pause(0, 0)", x.pause(0, 0), VoiceShaper.NONE);
        Check.throwsNone("no syllable", x, 0, 0);
        Check.due("fit()", x.fit(), 1);
        Check.due("apart(0, 0)", x.apart(0, 0), -1);
        Check.no("hand(0, 0, 1)", x.hand(0, 0, 1));
        Check.no("hand(0, 0, -1)", x.hand(0, 0, -1));
        Check.no("change(0, ..)", x.change(0, 1, 0, 0, false, false));
        Check.due("rules()", x.rules(), 0);
        Check.same("two new ones", Refusal.state(new VoiceShaper()), Refusal.state(new VoiceShaper()));
    }

    private static final String WORD =
            "A WORD comes behind the READING in hand: how many; NONE: other numbers, 16 are there.";

    private static void wordComesBehind() {
        Check.quote(WORD);
        VoiceShaper x = Refusal.busy();
        Check.due("how many, of the one in hand", x.word(5, 4, 99, true, true), 5);
        Check.due("its syllables are the last", Check.shape(x, 7, 3), 4);
        Check.due("the last of them", Check.shape(x, 11, 3), 4);
        Check.due("the marks stay", x.count(7), 4);
        x.take(0);
        Check.due("the other reading has none more", x.count(2), 4);
        Check.due("how many, of that one", x.word(1, 0, 0, false, false), 5);
    }

    private static final int[][] OTHER_NUMBERS = {{0, 0, 0}, {-1, 0, 0}, {6, 0, 0}, {6, 5, 0}, {LEAST, 0, 0}, {MOST, 0, 0},
        {1, 1, 0}, {2, 2, 0}, {5, 5, 0}, {2, -1, 0}, {2, LEAST, 0}, {2, MOST, 0}, {2, 0, -1}, {2, 0, 100},
        {2, 0, LEAST}, {2, 0, MOST}};

    private static void wordIsRefused() {
        Check.quote(WORD);
        for (int[] o : OTHER_NUMBERS) {
            Refusal.of("word(" + o[0] + ", " + o[1] + ", " + o[2] + ")", VoiceShaper.NONE,
                    x -> x.word(o[0], o[1], o[2], true, true));
        }
    }

    private static void wordIsRefusedWhere16AreThere() {
        Check.quote(WORD);
        Refusal.of("word(1, 0, 0)", VoiceShaper.NONE, ReadingEdges::sixteenWords, x -> x.word(1, 0, 0, true, true));
        Refusal.of("word(5, 4, 99)", VoiceShaper.NONE, ReadingEdges::sixteenWords, x -> x.word(5, 4, 99, true, true));
    }

    private static VoiceShaper sixteenWords() {
        VoiceShaper x = new VoiceShaper();
        for (int n = 1; n <= 16; n++) {
            x.word(1, 0, n, n % 3 == 0, n % 5 == 0);
        }
        return x;
    }

    private static final String CHANGE = "A WORD is changed so (MARKS by hand of its READING are gone, if it has "
            + "another number of SYLLABLES): true; false: none such, other numbers.";

    private static void changeAndItsMarks() {
        Check.quote(CHANGE);
        VoiceShaper x = Refusal.busy();
        Check.yes("the same number", x.change(3, 1, 0, 99, true, true));
        Check.due("the marks stay", x.count(7), 4);
        Check.yes("one more", x.change(3, 2, 0, 0, true, true));
        Check.due("all marks are gone, those of other words, too", x.count(7), 0);
        Check.due("length ahead of speed, by the lines", Check.shape(x, 1, 5), 10 + x.phrase(0, 2) - 2);
        x.take(0);
        Check.due("the marks of the other reading stay", x.count(7), 3);
        Check.yes("one less", x.change(0, 1, 0, 0, true, true));
        Check.due("they are gone, too", x.count(7), 0);
        Check.yes("a mark again", x.hand(0, 0, 7));
        Check.yes("the number it has now", x.change(0, 1, 0, 5, false, false));
        Check.due("it stays", x.count(7), 1);
        VoiceShaper one = Check.sentence("5 0 0");
        one.hand(4, 2, 9);
        one.change(0, 4, 0, 0, false, false);
        one.change(0, 5, 0, 0, false, false);
        Check.row("a mark does not come back", one, 2, 5, 5, 5, 5, 5);
    }

    private static void changeIsRefused() {
        Check.quote(CHANGE);
        for (int word : new int[] {LEAST, -1, 4, 5, 16, MOST}) {
            Refusal.of("change(" + word + ", ..)", 0, x -> x.change(word, 1, 0, 0, true, true) ? 1 : 0);
        }
        for (int[] o : OTHER_NUMBERS) {
            Refusal.of("change(0, " + o[0] + ", " + o[1] + ", " + o[2] + ")", 0,
                    x -> x.change(0, o[0], o[1], o[2], true, true) ? 1 : 0);
        }
        VoiceShaper x = Refusal.busy();
        Check.yes("the first word", x.change(0, 2, 0, 0, true, true));
        Check.yes("the last word", x.change(3, 1, 0, 0, true, true));
        Refusal.of("change of no word", 0, VoiceShaper::new, y -> y.change(0, 1, 0, 0, true, true) ? 1 : 0);
        Refusal.of("change behind 16 words", 0, ReadingEdges::sixteenWords,
                y -> y.change(16, 1, 0, 0, true, true) ? 1 : 0);
    }

    private static final String READING =
            "A READING more, like the one in hand (its MARKS, too), in hand then: its number; NONE: 4 are there.";

    private static void readingIsLikeTheOneInHand() {
        Check.quote(READING);
        for (int like = 0; like <= 1; like++) {
            VoiceShaper x = Refusal.busy();
            x.take(like);
            Check.due("its number", x.reading(), 2);
            Check.due("in hand then", x.count(1), 2);
            Check.due("its words", x.count(2), 4);
            Check.due("its marks", x.count(7), like == 0 ? 3 : 4);
            Check.due("alike", x.apart(like, 2), -1);
            Check.due("the other one is not", x.apart(1 - like, 2), 0);
            x.rules();
            Check.rules(x, "set power tune;");
            Check.due("its tune", Check.shape(x, 0, 2), like == 0 ? 2 : 1);
            x.hand(0, 0, 99);
            Check.due("from then on its own", x.apart(like, 2), 0);
        }
        VoiceShaper empty = new VoiceShaper();
        Check.due("one without words", empty.reading(), 1);
        Check.due("has none, too", empty.count(2), 0);
        VoiceShaper full = sixteenWords();
        full.hand(15, 1, 99);
        Check.due("one of 16 words", full.reading(), 1);
        Check.due("has them, too", full.count(2), 16);
        Check.due("and the mark on the last", Check.shape(full, 15, 1), 99);
        Check.due("and their phrases", full.apart(0, 1), -1);
    }

    private static VoiceShaper fourReadings() {
        VoiceShaper x = Refusal.busy();
        x.reading();
        x.reading();
        x.take(1);
        return x;
    }

    private static void readingIsRefusedWhere4AreThere() {
        Check.quote(READING);
        Check.due("4 are there", fourReadings().count(0), 4);
        Refusal.of("reading()", VoiceShaper.NONE, ReadingEdges::fourReadings, VoiceShaper::reading);
    }

    private static void takeAndItsEdges() {
        Check.quote("A READING is taken in hand: true; false: none such.");
        VoiceShaper x = Refusal.busy();
        Check.yes("take(0)", x.take(0));
        Check.due("0 in hand", x.count(1), 0);
        Check.due("its marks", x.count(7), 3);
        Check.yes("take(0) again", x.take(0));
        Check.yes("take(1)", x.take(1));
        Check.due("1 in hand", x.count(1), 1);
        Check.due("its marks", x.count(7), 4);
        for (int r : new int[] {LEAST, -1, 2, 3, 4, MOST}) {
            Refusal.of("take(" + r + ")", 0, y -> y.take(r) ? 1 : 0);
        }
        for (int r : new int[] {LEAST, -1, 4, 5, MOST}) {
            Refusal.of("take(" + r + ") of four", 0, ReadingEdges::fourReadings, y -> y.take(r) ? 1 : 0);
        }
        Check.yes("take(3) of four", fourReadings().take(3));
    }

    private static void tuneAndItsEdges() {
        Check.quote("The tune of the READING in hand: true; false: another one.");
        for (int t : new int[] {LEAST, -1, 4, 5, MOST}) {
            Refusal.of("tune(" + t + ")", 0, x -> x.tune(t) ? 1 : 0);
        }
        VoiceShaper x = Refusal.busy();
        x.rules();
        Check.rules(x, "set power tune;");
        Check.yes("tune(3)", x.tune(3));
        Check.due("of the one in hand", Check.shape(x, 0, 2), 3);
        x.take(0);
        Check.due("not of the other one", Check.shape(x, 0, 2), 2);
        Check.yes("tune(0)", x.tune(0));
        Check.due("of that one", Check.shape(x, 0, 2), 0);
        VoiceShaper empty = new VoiceShaper();
        Check.yes("without words", empty.tune(3));
        empty.word(1, 0, 0, false, false);
        Check.rules(empty, "set power tune;");
        Check.due("it holds for words that come", Check.shape(empty, 0, 2), 3);
    }
}
