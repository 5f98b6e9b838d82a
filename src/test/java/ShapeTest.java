/** Promises 11, 12, 15, 16: hand, speed, shape, fit. */
public final class ShapeTest {
    public static void main(String[] args) {
        names();
        signs();
        limits();
        linesInOrder();
        heights();
        heightsAroundMarks();
        marks();
        wrongMarks();
        speed();
        wrongSyllables();
        fullReading();
        Check.end();
    }

    /** A power told by each name, of two phrases: 2 + 1 syllables, then 3 + 1. */
    private static void names() {
        VoiceShaper x = Check.sentence("2 1 0 n, 1 0 1 c, 3 0 50 n, 1 0 0");
        x.ideal(3);
        x.tune(3);
        Check.due("phrases", x.phrases(), 2);
        told(x, "place", 0, 1, 2, 0, 1, 2, 3);
        told(x, "left", 2, 1, 0, 3, 2, 1, 0);
        told(x, "stress", 0, 1, 1, 1, 0, 0, 1);
        told(x, "accent", 0, 0, 1, 1, 0, 0, 0);
        told(x, "new", 1, 1, 0, 1, 1, 1, 0);
        told(x, "contrast", 0, 0, 1, 0, 0, 0, 0);
        told(x, "phrase", 0, 0, 0, 1, 1, 1, 1);
        told(x, "final", 0, 0, 0, 1, 1, 1, 1);
        told(x, "word", 0, 0, 1, 2, 2, 2, 3);
        told(x, "tune", 3, 3, 3, 3, 3, 3, 3);
        told(x, "length - 1", 9, 9, 9, 9, 9, 9, 9);
        told(x, "height - 44", 6, 6, 6, 6, 6, 6, 6);
        told(x, "power + 1", 6, 6, 6, 6, 6, 6, 6);
        Check.row("words", x, 3, 0, 0, 1, 2, 2, 2, 3);
        Check.row("phrases", x, 4, 0, 0, 0, 1, 1, 1, 1);
    }

    private static void signs() {
        VoiceShaper x = Check.sentence("4 0 0");
        told(x, "7 - 2 - 1", 4, 4, 4, 4);
        told(x, "7 - (2 - 1)", 6, 6, 6, 6);
        told(x, "place < 2", 1, 1, 0, 0);
        told(x, "2 < place + 1", 0, 0, 1, 1);
        told(x, "place = left - 1", 0, 1, 0, 0);
        told(x, "place and 3", 0, 1, 1, 1);
        told(x, "3 and place and left", 0, 1, 1, 0);
        told(x, "0 - 5 and 7", 1, 1, 1, 1);
        told(x, "1 + (place = 1 and left = 2) + (place < 1)", 2, 2, 1, 1);
        told(x, "place", 0, 1, 2, 3);
        told(x, "2 and 3 < 4", 1, 1, 1, 1);
        told(x, "2 < 3 and 4 = 5", 0, 0, 0, 0);
        told(x, "(1 and (1 < 2 + (1 + (1 and 0 = 0 + 0))))", 1, 1, 1, 1);
        told(x, "0 and 0 < 1 + (0 and 0 < 1 + (0 and 0 < 1 + (0 and 0 < 1 + (0 and 0 < 1))))", 0, 0, 0, 0);
        told(x, "1 and 0 < 1 + (1 and 0 < 1 + (1 and 0 < 1 + (1 and 0 < 1 + (1 and 0 < 1 + 2))))", 1, 1, 1, 1);
        told(x, "9 when place", 5, 9, 9, 9);
        told(x, "9 when 0 - 1", 9, 9, 9, 9);
        told(x, "9 when 0", 5, 5, 5, 5);
    }

    private static void limits() {
        VoiceShaper x = Check.sentence("1 0 0");
        Check.rules(x, "set length 100; set power 10;");
        Check.row("most length", x, 5, 99);
        Check.row("most power", x, 2, 9);
        Check.rules(x, "set length 0; add power 0 - 6;");
        Check.row("least length", x, 5, 1);
        Check.row("least power", x, 2, 0);
        Check.rules(x, "add length 0 - 9999; add length 5; set power 9999; add power 0 - 1;");
        Check.row("length is brought within by each line", x, 5, 6);
        Check.row("power is brought within by each line", x, 2, 8);
        Check.rules(x, "set height 9999; add height 0 - 950;");
        Check.row("height is 999 at most", x, 1, 49);
        Check.rules(x, "set height 0 - 9999; add height 9000; add height 0 - 950;");
        Check.row("height is -999 at least", x, 1, 49);
        Check.rules(x, "set height 0 - 9999; add height 1042;");
        Check.row("height is -999 at least", x, 1, 43);
        Check.rules(x, "set height 500; set power 8 when 99 < height;");
        Check.row("the span comes behind all lines", x, 2, 8);
        Check.row("the span comes behind all lines", x, 1, 99);
    }

    private static void linesInOrder() {
        VoiceShaper x = Check.sentence("3 1 0");
        Check.rules(x, "set power place; add power power; set length power when power; add length 0 - 1;");
        Check.row("power", x, 2, 0, 2, 4);
        Check.row("length", x, 0, 9, 1, 3);
        Check.rules(x, "add power 2; set power 1 when power = 7; set power 2 when power = 5;");
        Check.row("one line after the other", x, 2, 1, 1, 1);
    }

    private static void heights() {
        VoiceShaper x = Check.sentence("5 0 0");
        x.manner(0, 20, 60, 10);
        Check.rules(x, "set height 0; set height 99 when place = 2; set height 45 when left = 0;");
        // In the span: 20 20 60 20 45; from the first on: 20 20 30 20 30; back: the same.
        Check.row("span and slope", x, 1, 20, 20, 30, 20, 30);
        Check.due("fit", x.fit(), 1);
        Check.rules(x, "set height 60 when place = 0; set height 20 when place;");
        Check.row("down by the slope", x, 1, 60, 50, 40, 30, 20);
        x.manner(0, 0, 99, 99);
        Check.row("a wide slope", x, 1, 60, 20, 20, 20, 20);
        x.manner(0, 0, 99, 1);
        Check.row("a narrow slope", x, 1, 60, 59, 58, 57, 56);
        x.manner(0, 55, 57, 99);
        Check.row("a narrow span", x, 1, 57, 55, 55, 55, 55);
    }

    private static void heightsAroundMarks() {
        VoiceShaper x = Check.sentence("5 0 0");
        x.manner(0, 20, 60, 10);
        x.hand(2, 1, 99);
        Check.row("a mark beyond the span pulls all", x, 1, 79, 89, 99, 89, 79);
        Check.due("fit", x.fit(), 1);
        x.hand(4, 1, 0);
        // From the first on: 50 50 99 89 0; back: 3 goes to 10, 1 to 89, 0 to 79.
        Check.row("two marks", x, 1, 79, 89, 99, 10, 0);
        Check.due("not fit", x.fit(), 0);
        x.hand(4, 1, 79);
        Check.due("fit at the edge", x.fit(), 1);
        x.hand(4, 1, 78);
        // 3: 89 first, then to 88 for 78: 11 off 99.
        Check.row("beyond the edge", x, 1, 79, 89, 99, 88, 78);
        Check.due("not fit beyond the edge", x.fit(), 0);
        x.hand(4, 1, -1);
        x.hand(2, 1, -1);
        x.hand(0, 1, 0);
        Check.row("a mark on the first", x, 1, 0, 10, 20, 30, 40);
        Check.rules(x, "set height 0;");
        x.hand(0, 1, 50);
        Check.row("within the slope of the one ahead", x, 1, 50, 40, 30, 20, 20);
        x.hand(0, 1, -1);
        x.hand(4, 1, 50);
        Check.row("within the slope of the one behind", x, 1, 20, 20, 30, 40, 50);
        x.hand(0, 1, 50);
        x.hand(1, 1, 0);
        Check.row("marks stay beside one another", x, 1, 50, 0, 30, 40, 50);
        Check.due("not fit", x.fit(), 0);
    }

    private static void marks() {
        VoiceShaper x = Check.sentence("3 0 0");
        Check.rules(x, "set length 20; set power length - 13 when 0 < place; set height height + power;");
        Check.yes("length", x.hand(1, 0, 99));
        Check.yes("power", x.hand(1, 2, 0));
        Check.yes("power of the first", x.hand(0, 2, 9));
        Check.row("length by hand", x, 5, 20, 99, 20);
        Check.row("power by hand, no line sees marks", x, 2, 9, 0, 7);
        Check.row("height by lines, no line sees marks", x, 1, 55, 57, 57);
        Check.due("marks", x.count(7), 3);
        Check.yes("another mark in its place", x.hand(1, 0, 1));
        Check.due("marks as before", x.count(7), 3);
        Check.row("another length", x, 5, 20, 1, 20);
        Check.yes("none any more", x.hand(1, 0, -1));
        Check.yes("none any more, again", x.hand(1, 0, -1));
        Check.due("marks less", x.count(7), 2);
        Check.row("length by lines", x, 5, 20, 20, 20);
        Check.yes("height 0", x.hand(2, 1, 0));
        Check.yes("height 99", x.hand(0, 1, 99));
        Check.row("height by hand", x, 1, 99, 57, 0);
        x.word(1, 0, 0, false, false);
        Check.due("a word more keeps the marks", x.count(7), 4);
        Check.row("height by hand", x, 1, 99, 57, 0, 57);
    }

    private static void wrongMarks() {
        VoiceShaper x = Check.sentence("3 0 0");
        x.hand(0, 0, 20);
        int[][] others = {{-1, 0, 5}, {3, 0, 5}, {80, 0, 5}, {3, 0, -1}, {0, -1, 5}, {0, 3, 5}, {0, 3, -1}, {0, 0, 0},
            {0, 0, 100}, {0, 0, -2}, {0, 1, 100}, {0, 1, -2}, {0, 2, 10}, {0, 2, -2}, {Integer.MAX_VALUE, 0, 5},
            {Integer.MIN_VALUE, 0, 5}, {0, Integer.MAX_VALUE, 5}, {0, Integer.MIN_VALUE, 5},
            {0, 0, Integer.MAX_VALUE}, {0, 0, Integer.MIN_VALUE}};
        for (int[] o : others) {
            Check.no("hand(" + o[0] + ", " + o[1] + ", " + o[2] + ")", x.hand(o[0], o[1], o[2]));
        }
        Check.due("marks as before", x.count(7), 1);
        Check.row("as before", x, 0, 20, 10, 10);
    }

    private static void speed() {
        VoiceShaper x = Check.sentence("4 0 0");
        x.hand(0, 0, 1);
        x.hand(1, 0, 1);
        x.hand(2, 0, 1);
        x.hand(3, 0, 7);
        Check.row("1 of 1 at first", x, 0, 1, 1, 1, 7);
        Check.yes("2 of 3", x.speed(2, 3));
        Check.row("2 of 3", x, 0, 0, 1, 1, 4);
        Check.row("ahead of speed", x, 5, 1, 1, 1, 7);
        Check.yes("1 of 100", x.speed(1, 100));
        Check.row("1 of 100", x, 0, 0, 0, 0, 0);
        Check.yes("100 of 1", x.speed(100, 1));
        Check.row("100 of 1", x, 0, 100, 100, 100, 700);
        for (int[] o : new int[][] {{0, 1}, {1, 0}, {101, 1}, {1, 101}, {-1, 1}, {1, -1}, {Integer.MAX_VALUE, 1},
            {1, Integer.MIN_VALUE}}) {
            Check.no("speed(" + o[0] + ", " + o[1] + ")", x.speed(o[0], o[1]));
        }
        Check.row("as before", x, 0, 100, 100, 100, 700);
        Check.yes("3 of 7", x.speed(3, 7));
        Check.row("3 of 7", x, 0, 0, 0, 1, 3);
        x.reading();
        Check.row("of all readings", x, 0, 0, 0, 1, 3);
    }

    private static void wrongSyllables() {
        VoiceShaper x = Check.sentence("2 0 0");
        int[][] others = {{-1, 0}, {2, 0}, {80, 0}, {0, -1}, {0, 6}, {2, 6}, {Integer.MAX_VALUE, 0},
            {Integer.MIN_VALUE, 0}, {0, Integer.MAX_VALUE}, {0, Integer.MIN_VALUE}};
        for (int[] o : others) {
            Check.throwsNone("wrong", x, o[0], o[1]);
        }
        for (int what = 0; what <= 5; what++) {
            Check.row("right", x, what, new int[][] {{10, 10}, {50, 50}, {5, 5}, {0, 0}, {0, 0}, {10, 10}}[what]);
        }
    }

    /** 16 words of 5 syllables: every row is full. */
    private static void fullReading() {
        VoiceShaper x = new VoiceShaper();
        for (int n = 1; n <= 16; n++) {
            Check.due("word " + n, x.word(5, 4, 0, n % 2 == 0, false), n);
        }
        Check.due("rules", Check.rules(x, "set length word + 1; set height place + 40; set power accent;"), 0);
        Check.yes("mark on the last", x.hand(79, 1, 99));
        Check.no("mark beyond", x.hand(80, 1, 99));
        x.ideal(5);
        Check.due("each alone", x.phrases(), 16);
        Check.due("cost", x.phrase(15, 4), 15);
        Check.due("pause", x.pause(14, 1000), 66);
        Check.due("the first ten have one more", x.pause(9, 1000), 67);
        Check.due("the last has none", x.pause(15, 1000), -1);
        x.ideal(20);
        Check.due("by four", x.phrases(), 4);
        Check.due("cost", x.phrase(3, 4), 3);
        x.manner(0, 0, 99, 10);
        for (int i = 0; i < 80; i++) {
            int near = 99 - 10 * (79 - i);
            int down = i % 20 == 0 && i > 0 ? 49 : 0;
            Check.due("length of " + i, Check.shape(x, i, 5), i / 5 + 1);
            Check.due("height of " + i, Check.shape(x, i, 1), Math.max(Math.max(i % 20 + 40, near), down));
            Check.due("power of " + i, Check.shape(x, i, 2), i % 20 == 19 ? 1 : 0);
            Check.due("phrase of " + i, Check.shape(x, i, 4), i / 20);
        }
        Check.throwsNone("full", x, 80, 0);
        Check.due("fit", x.fit(), 1);
        Check.due("a reading more", x.reading(), 1);
        Check.due("alike", x.apart(0, 1), -1);
        Check.due("none more", x.word(1, 0, 0, false, false), -1);
        Check.yes("the last is changed", x.change(15, 4, 3, 0, true, false));
        Check.due("syllables", x.count(3), 79);
        Check.due("marks", x.count(7), 0);
        Check.throwsNone("shorter", x, 79, 0);
    }

    private static void told(VoiceShaper x, String e, int... want) {
        Check.due("rules of " + e, Check.rules(x, "set power " + e + ";"), 0);
        Check.row(e, x, 2, want);
    }
}
