/** Promises 1 to 6: a new object, word, change, reading, take, tune. */
public final class ReadingsTest {
    public static void main(String[] args) {
        newObject();
        words();
        change();
        changeAndMarks();
        readings();
        readingHasAllOfTheOneInHand();
        take();
        tune();
        Check.end();
    }

    private static void newObject() {
        VoiceShaper x = new VoiceShaper();
        int[] want = {1, 0, 0, 0, 0, 0, 0, 0};
        for (int what = 0; what < want.length; what++) {
            Check.due("new: count(" + what + ")", x.count(what), want[what]);
        }
        Check.due("new: phrases()", x.phrases(), 0);
        Check.due("new: phrase(0, 4)", x.phrase(0, 4), -1);
        Check.due("new: pause(0, 0)", x.pause(0, 0), -1);
        Check.due("new: fit()", x.fit(), 1);
        Check.due("new: apart(0, 0)", x.apart(0, 0), -1);
        Check.due("new: apart(0, 1)", x.apart(0, 1), -2);
        Check.throwsNone("new", x, 0, 0);
        Check.no("new: hand", x.hand(0, 0, 5));
        Check.no("new: change", x.change(0, 1, 0, 0, false, false));
    }

    private static void words() {
        VoiceShaper x = new VoiceShaper();
        int[][] others = {{0, 0, 0}, {-1, 0, 0}, {6, 0, 0}, {3, 3, 0}, {3, -1, 0}, {1, 1, 0}, {3, 0, -1},
            {3, 0, 100}, {Integer.MIN_VALUE, 0, 0}, {Integer.MAX_VALUE, 0, 0}, {5, Integer.MAX_VALUE, 0},
            {5, Integer.MIN_VALUE, 0}, {5, 0, Integer.MIN_VALUE}, {5, 0, Integer.MAX_VALUE}};
        for (int[] o : others) {
            Check.due("word(" + o[0] + ", " + o[1] + ", " + o[2] + ")", x.word(o[0], o[1], o[2], true, true), -1);
        }
        Check.due("no word came", x.count(2), 0);
        Check.due("least word", x.word(1, 0, 0, false, false), 1);
        Check.due("most word", x.word(5, 4, 99, true, true), 2);
        for (int n = 3; n <= 16; n++) {
            Check.due("word " + n, x.word(5, 0, 0, false, false), n);
        }
        Check.due("word 17", x.word(1, 0, 0, false, false), -1);
        Check.due("words", x.count(2), 16);
        Check.due("syllables", x.count(3), 76);
    }

    private static void change() {
        VoiceShaper x = Check.sentence("2 0 0 n, 3 1 5, 1 0 9 c, 2 1 0 n");
        int[][] others = {{-1, 1, 0, 0}, {4, 1, 0, 0}, {Integer.MAX_VALUE, 1, 0, 0}, {0, 0, 0, 0}, {0, 6, 0, 0},
            {0, 2, 2, 0}, {0, 2, -1, 0}, {0, 2, 0, -1}, {0, 2, 0, 100}};
        for (int[] o : others) {
            Check.no("change(" + o[0] + ", " + o[1] + ", " + o[2] + ", " + o[3] + ")",
                    x.change(o[0], o[1], o[2], o[3], true, true));
        }
        Check.due("syllables as before", x.count(3), 8);
        Check.yes("change the last", x.change(3, 5, 4, 99, true, true));
        Check.yes("change the first", x.change(0, 1, 0, 0, false, false));
        Check.due("syllables changed", x.count(3), 10);
        Check.due("words as before", x.count(2), 4);
        Check.rules(x, "set power stress + new + new + contrast + contrast + contrast + contrast ;");
        Check.row("changed", x, 2, 1, 0, 1, 0, 5, 6, 6, 6, 6, 7);
        Check.row("changed words", x, 3, 0, 1, 1, 1, 2, 3, 3, 3, 3, 3);
    }

    private static void changeAndMarks() {
        VoiceShaper x = Check.sentence("2 0 0, 3 1 5");
        x.hand(0, 0, 7);
        x.hand(4, 1, 7);
        x.hand(4, 2, 7);
        Check.yes("a change of the same length", x.change(1, 3, 2, 9, true, true));
        Check.due("keeps marks", x.count(7), 3);
        Check.no("a wrong change", x.change(1, 4, 4, 9, true, true));
        Check.due("keeps marks, too", x.count(7), 3);
        x.reading();
        Check.yes("a change of another length", x.change(1, 4, 2, 9, true, true));
        Check.due("all marks are gone", x.count(7), 0);
        Check.row("no marks", x, 0, 10, 10, 10, 10, 10, 10);
        x.take(0);
        Check.due("the other reading keeps its own", x.count(7), 3);
        Check.row("its length", x, 0, 7, 10, 10, 10, 10);
    }

    private static void readings() {
        VoiceShaper x = new VoiceShaper();
        for (int n = 1; n <= 3; n++) {
            Check.due("reading " + n, x.reading(), n);
            Check.due("in hand", x.count(1), n);
            Check.due("readings", x.count(0), n + 1);
        }
        Check.yes("take", x.take(1));
        Check.due("reading 4", x.reading(), -1);
        Check.due("in hand as before", x.count(1), 1);
        Check.due("readings as before", x.count(0), 4);
    }

    private static void readingHasAllOfTheOneInHand() {
        VoiceShaper x = Check.sentence("2 1 99 n, 3 0 3 c, 1 0 0 nc, 4 3 7, 5 2 1 n");
        x.tune(2);
        x.hand(0, 0, 33);
        x.hand(14, 1, 44);
        x.hand(7, 2, 0);
        Check.rules(x, "set height tune + tune + stress + new + contrast + accent + place ; set length word + 1 ;");
        x.reading();
        Check.due("words", x.count(2), 5);
        Check.due("syllables", x.count(3), 15);
        Check.due("marks", x.count(7), 3);
        Check.due("alike", x.apart(0, 1), -1);
        Check.due("its tune is the same", x.shape(1, 1) - x.shape(0, 1), 2);
        x.word(1, 0, 0, false, false);
        x.tune(0);
        x.hand(0, 0, 34);
        Check.due("words more", x.count(2), 6);
        x.take(0);
        Check.due("the old one is as it was: words", x.count(2), 5);
        Check.due("the old one is as it was: mark", x.shape(0, 0), 33);
        x.reading();
        Check.due("like the one in hand, not like the last one", x.apart(0, 2), -1);
        Check.due("not like the last one", x.apart(1, 2), 0);
    }

    private static void take() {
        VoiceShaper x = new VoiceShaper();
        Check.no("take(1)", x.take(1));
        Check.no("take(-1)", x.take(-1));
        Check.yes("take(0)", x.take(0));
        x.reading();
        Check.due("a word", x.word(1, 0, 0, true, true), 1);
        Check.yes("take(0)", x.take(0));
        Check.due("in hand", x.count(1), 0);
        Check.due("without words", x.count(2), 0);
        Check.due("its phrases", x.phrases(), 0);
        Check.yes("take(1)", x.take(1));
        Check.due("with its word", x.count(2), 1);
        Check.due("its phrases", x.phrases(), 1);
        Check.no("take(2)", x.take(2));
        Check.no("take(most)", x.take(Integer.MAX_VALUE));
        Check.no("take(least)", x.take(Integer.MIN_VALUE));
        Check.due("in hand as before", x.count(1), 1);
    }

    private static void tune() {
        VoiceShaper x = Check.sentence("1 0 0");
        Check.rules(x, "set power tune ;");
        Check.row("at first", x, 2, 0);
        for (int t = 0; t <= 3; t++) {
            Check.yes("tune(" + t + ")", x.tune(t));
            Check.row("tune", x, 2, t);
        }
        Check.no("tune(4)", x.tune(4));
        Check.no("tune(-1)", x.tune(-1));
        Check.row("tune as before", x, 2, 3);
        x.reading();
        x.tune(1);
        Check.due("each has its own", x.apart(0, 1), 0);
        x.take(0);
        Check.row("its own", x, 2, 3);
    }
}
