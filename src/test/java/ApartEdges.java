/** Edges of what is held apart and counted: part 4 of the terms, promises 18 and 19, and the calls of one object. */
final class ApartEdges {
    private static final int MOST = Integer.MAX_VALUE;
    private static final int LEAST = Integer.MIN_VALUE;

    private ApartEdges() {
    }

    static void all() {
        theConstant();
        rowsNotAlike();
        endsNotAlike();
        whatIsNotAsked();
        theFirstOne();
        toldAnew();
        theOneThatGoesOn();
        noSuchReadings();
        counts();
        noSuchCount();
        the512thCall();
    }

    private static void theConstant() {
        Check.quote("The constants: `NONE = -1`: None.");
        Check.due("NONE", VoiceShaper.NONE, -1);
    }

    private static void apart(String about, VoiceShaper x, int want) {
        Check.due(about, x.apart(0, 1), want);
        Check.due(about + ", the other way round", x.apart(1, 0), want);
    }

    private static VoiceShaper twoAlike(String words) {
        VoiceShaper x = Check.sentence(words);
        x.reading();
        return x;
    }

    private static final String ROWS = "APART are two READINGS with the same manner, if their rows of LENGTH, HEIGHT, POWER "
            + "told, or where their PHRASES end, are not alike:";

    private static void rowsNotAlike() {
        Check.quote(ROWS);
        for (int what = 0; what <= 2; what++) {
            for (int syllable : new int[] {0, 2, 4}) {
                VoiceShaper x = twoAlike("5 0 0");
                apart("alike", x, -1);
                x.hand(syllable, what, new int[] {11, 51, 6}[what]);
                apart("apart by " + what + " at " + syllable, x, syllable);
                x.hand(syllable, what, new int[] {10, 50, 5}[what]);
                apart("a mark that changes nothing", x, -1);
            }
        }
        VoiceShaper told = twoAlike("2 0 0");
        told.hand(0, 0, 11);
        told.hand(1, 0, 9);
        apart("lengths 10 10 and 11 9", told, 0);
        told.speed(1, 2);
        apart("told as 5 5 and 5 5", told, -1);
        told.hand(1, 0, 11);
        apart("told as 5 5 and 5 6", told, 1);
        VoiceShaper manners = twoAlike("2 0 0");
        manners.tune(1);
        apart("without rules", manners, -1);
        manners.manner(1, 0, 99, 99);
        Check.rules(manners, "add height tune when place;");
        apart("with the rules in hand", manners, 1);
        manners.manner(1, 20, 20, 99);
        apart("within a span of one", manners, -1);
        manners.manner(0, 0, 99, 99);
        apart("in the first manner again", manners, -1);
    }

    private static void endsNotAlike() {
        Check.quote(ROWS);
        VoiceShaper x = twoAlike("3 0 0, 3 0 0, 3 0 0, 3 0 0");
        x.change(1, 3, 0, 99, false, false);
        // 6 | 6 and 9 | 3.
        Check.due("9 in the first phrase", x.phrase(0, 2), 9);
        apart("one ends at 5", x, 5);
        VoiceShaper y = twoAlike("5 0 0, 5 0 0");
        y.change(0, 5, 0, 99, false, false);
        Check.due("one phrase", y.phrases(), 1);
        apart("one ends at 4, the other at 9 alone", y, 4);
    }

    private static void whatIsNotAsked() {
        Check.quote(ROWS);
        VoiceShaper x = new VoiceShaper();
        x.reading();
        x.word(5, 4, 9, true, true);
        x.tune(3);
        x.take(0);
        x.word(2, 0, 0, false, false);
        x.word(3, 0, 0, true, false);
        apart("other words, stress, bond, new, contrasted, tune", x, -1);
        Check.rules(x, "set power stress;");
        apart("where a rule asks for them", x, 0);
    }

    private static void theFirstOne() {
        Check.quote("told is the first SYLLABLE at which they are not.");
        VoiceShaper x = twoAlike("5 0 0, 5 0 0");
        x.hand(9, 2, 9);
        apart("the last one", x, 9);
        x.hand(7, 1, 51);
        apart("one ahead of it", x, 7);
        x.hand(8, 0, 99);
        apart("one between them", x, 7);
        x.change(0, 5, 0, 99, false, false);
        apart("an end ahead of them", x, 4);
        x.hand(0, 0, 99);
        apart("the first of all", x, 0);
    }

    private static void toldAnew() {
        Check.quote("told is the first SYLLABLE at which they are not.");
        VoiceShaper x = twoAlike("5 0 0, 5 0 0");
        Check.due("alike", x.apart(0, 1), -1);
        x.tune(1);
        Check.due("behind tune", x.apart(0, 1), -1);
        Check.rules(x, "add height tune when left = 0 and final;");
        Check.due("behind rules", x.apart(0, 1), 9);
        x.manner(0, 20, 20, 99);
        Check.due("behind manner", x.apart(0, 1), -1);
        x.hand(7, 2, 9);
        Check.due("behind hand", x.apart(0, 1), 7);
        x.change(0, 5, 0, 40, false, false);
        Check.due("behind change", x.apart(0, 1), 4);
        x.ideal(20);
        Check.due("behind ideal", x.apart(0, 1), 7);
        x.hand(1, 0, 11);
        Check.due("behind hand again", x.apart(0, 1), 1);
        x.speed(1, 2);
        Check.due("behind speed", x.apart(0, 1), 7);
        x.hand(7, 2, -1);
        Check.due("behind no mark any more", x.apart(0, 1), -1);
        x.take(0);
        Check.due("behind take", x.apart(0, 1), -1);
        x.word(1, 0, 0, false, false);
        Check.due("behind word", x.apart(0, 1), 9);
    }

    private static final String APART = "APART: the first SYLLABLE (of the one that goes on, if that has all of the other one "
            + "ahead of it); -1: they are alike; -2: no such READINGS.";

    private static void theOneThatGoesOn() {
        Check.quote(APART);
        VoiceShaper empty = new VoiceShaper();
        empty.reading();
        apart("both without words", empty, -1);
        empty.word(1, 0, 0, false, false);
        apart("one without words", empty, 0);
        VoiceShaper x = twoAlike("5 0 0");
        x.word(5, 0, 0, false, false);
        apart("5 and 5 | 5", x, 5);
        x.hand(5, 0, 1);
        apart("whatever is behind", x, 5);
        x.hand(4, 0, 1);
        apart("not alike ahead of that", x, 4);
        VoiceShaper end = twoAlike("3 0 0");
        end.word(3, 0, 0, false, false);
        Check.due("one phrase", end.phrases(), 1);
        apart("an end in the shorter one alone", end, 2);
        VoiceShaper full = twoAlike("5 0 0, 5 0 0, 5 0 0, 5 0 0, 5 0 0, 5 0 0, 5 0 0, 5 0 0, 5 0 0, 5 0 0, 5 0 0, 5 0 0, 5 0 0, "
                + "5 0 0, 5 0 0");
        full.word(5, 0, 0, false, false);
        apart("75 and 80", full, 75);
        full.take(0);
        full.word(5, 0, 0, false, false);
        apart("80 and 80", full, -1);
        Check.due("one and itself", full.apart(1, 1), -1);
    }

    private static void noSuchReadings() {
        Check.quote(APART);
        for (int none : new int[] {LEAST, -2, -1, 2, 3, 4, MOST}) {
            Refusal.of("apart(0, " + none + ")", -2, x -> x.apart(0, none));
            Refusal.of("apart(" + none + ", 1)", -2, x -> x.apart(none, 1));
            Refusal.of("apart(" + none + ", " + none + ")", -2, x -> x.apart(none, none));
        }
        Refusal.of("apart(0, 1)", 0, x -> x.apart(0, 1));
        Refusal.of("apart(1, 0)", 0, x -> x.apart(1, 0));
        Refusal.of("apart(0, 0)", -1, x -> x.apart(0, 0));
        VoiceShaper four = new VoiceShaper();
        four.reading();
        four.reading();
        Check.due("apart(0, 3) of three", four.apart(0, 3), -2);
        four.reading();
        Check.due("apart(0, 3) of four", four.apart(0, 3), -1);
        Check.due("apart(4, 0) of four", four.apart(4, 0), -2);
    }

    private static final String COUNT = "What 0: READINGS, 1: the one in hand, 2: its WORDS, 3: its SYLLABLES, 4: the MANNER in "
            + "hand, 5: lines of its RULES, 6: signs on the TAPE, 7: MARKS by hand of the READING. NONE for another what.";

    private static void counts(VoiceShaper x, int... want) {
        for (int what = 0; what < want.length; what++) {
            Check.due("count(" + what + ")", x.count(what), want[what]);
        }
    }

    private static void counts() {
        Check.quote(COUNT);
        VoiceShaper x = new VoiceShaper();
        counts(x, 1, 0, 0, 0, 0, 0, 0, 0);
        counts(Refusal.busy(), 2, 1, 4, 7, 1, 5, 15, 4);
        for (int n = 0; n < 16; n++) {
            x.word(5, 0, 0, false, false);
        }
        x.hand(79, 0, 1);
        x.hand(79, 1, 0);
        x.hand(79, 2, 0);
        x.reading();
        x.reading();
        x.reading();
        x.manner(3, 0, 99, 99);
        Check.rules(x, "set power 1;".repeat(24));
        Check.feed(x, " ".repeat(1000));
        counts(x, 4, 3, 16, 80, 3, 24, 1000, 3);
        x.change(15, 1, 0, 0, false, false);
        x.rules();
        counts(x, 4, 3, 16, 76, 3, 0, 0, 0);
        x.take(1);
        x.manner(0, 0, 99, 99);
        counts(x, 4, 1, 16, 80, 0, 0, 0, 3);
    }

    private static void noSuchCount() {
        Check.quote(COUNT);
        for (int what : new int[] {LEAST, -2, -1, 8, 9, MOST}) {
            Refusal.of("count(" + what + ")", VoiceShaper.NONE, x -> x.count(what));
        }
    }

    private static void the512thCall() {
        Check.quote("An object is used for at most 512 calls after it has been made; what later calls answer is free.");
        VoiceShaper x = new VoiceShaper();
        int calls = 0;
        for (; calls < 16; calls++) {
            x.word(5, calls % 5, calls, calls % 2 == 0, calls % 3 == 0);
        }
        for (int n = 0; n < 4; n++, calls += 2) {
            x.manner(n, 0, 99, 99);
            x.reading();
        }
        // "set power 9;" and "set power 8;" by turns, each read and asked for.
        for (int n = 0; calls + 3 <= 512; n++, calls += 3) {
            long digit = n % 2 == 0 ? '9' : '8';
            x.feed(Check.pack("set powe", 0), Check.pack("r  ;", 0) | digit << 40, 0);
            Check.due("rules, call " + (calls + 2), x.rules(), 0);
            Check.due("power, call " + (calls + 3), Check.shape(x, 79, 2), digit - '0');
        }
        Check.due("calls made", calls, 512 - 2);
        Check.yes("call 511", x.tune(3));
        Check.due("call 512", x.count(3), 80);
    }
}
