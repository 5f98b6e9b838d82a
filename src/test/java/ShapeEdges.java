import java.util.NoSuchElementException;

/** Edges of the shape, marks and speed: parts 3 and 4 of the terms, promises 11, 12, 15, 16. */
final class ShapeEdges {
    private static final int MOST = Integer.MAX_VALUE;
    private static final int LEAST = Integer.MIN_VALUE;

    private ShapeEdges() {
    }

    static void all() {
        atFirst();
        oneLineThenTheNext();
        theTestOfALine();
        setAndAdd();
        lengthIs1To99();
        heightIsWithin999();
        powerIs0To9();
        valuesAsTheyAre();
        placeAndLeft();
        ofTheSyllableOfItsWord();
        phraseFinalWordTune();
        andOfBothSides();
        lessAndEqual();
        markedHeights();
        othersIntoTheSpan();
        slopeFromTheFirstOn();
        slopeFromTheLastBack();
        fitAtTheEdge();
        marksOfLengthAndPower();
        speedIs1To100();
        lengthTold();
        handAndItsEdges();
        handIsRefused();
        speedIsRefused();
        ofASyllable();
        noSuchSyllable();
        fitIs1Or0();
    }

    private static VoiceShaper shaped(String words, String text) {
        VoiceShaper x = Check.sentence(words);
        Check.due("rules of " + text, Check.rules(x, text), 0);
        return x;
    }

    private static void power(String words, String e, int... want) {
        Check.row(e + " of " + words, shaped(words, "set power " + e + ";"), 2, want);
    }

    /** By a height, as that has room below 0 and above 9. */
    private static void told(String words, String e, int... want) {
        VoiceShaper x = shaped(words, "set height 50 + (" + e + ");");
        for (int i = 0; i < want.length; i++) {
            Check.due(e + " of syllable " + i + " of " + words, Check.shape(x, i, 1) - 50, want[i]);
        }
    }

    private static void atFirst() {
        Check.quote("THE SHAPE: for each SYLLABLE, in order, LENGTH 10, HEIGHT 50, POWER 5 first;");
        VoiceShaper x = Check.sentence("1 0 0, 2 0 0");
        Check.row("length", x, 5, 10, 10, 10);
        Check.row("height", x, 1, 50, 50, 50);
        Check.row("power", x, 2, 5, 5, 5);
        Check.row("in order", x, 3, 0, 1, 1);
        Check.rules(x, "add length 1; add height 1; add power 1;");
        Check.row("first, length", x, 5, 11, 11, 11);
        Check.row("first, height", x, 1, 51, 51, 51);
        Check.row("first, power", x, 2, 6, 6, 6);
        Check.row("it is made anew each time", x, 2, 6, 6, 6);
    }

    private static void oneLineThenTheNext() {
        Check.quote("then by the lines of the manner in hand, one line for all SYLLABLES, in order, then the next line:");
        VoiceShaper x = shaped("3 0 0", "set power place; add power power; set length power + 1; set power 9 when place = 2;");
        Check.row("power", x, 2, 0, 2, 9);
        Check.row("length", x, 5, 1, 3, 5);
        x.manner(1, 0, 99, 99);
        Check.row("no lines of another manner", x, 2, 5, 5, 5);
        VoiceShaper empty = shaped("1 0 0", "");
        Check.row("no lines at all", empty, 2, 5);
    }

    private static void theTestOfALine() {
        Check.quote("if the line's test (the second E, if there is one) is not 0,");
        power("4 0 0", "7 when place", 5, 7, 7, 7);
        power("4 0 0", "7 when 0", 5, 5, 5, 5);
        power("4 0 0", "7 when 0 - 1", 7, 7, 7, 7);
        power("4 0 0", "7 when place - 1", 7, 5, 7, 7);
        power("4 0 0", "7", 7, 7, 7, 7);
        power("4 0 0", "0", 0, 0, 0, 0);
    }

    private static void setAndAdd() {
        Check.quote("the VALUE is set to, or grows by the first E;");
        Check.row("set", shaped("2 0 0", "set height 7;"), 1, 7, 7);
        Check.row("set 0", shaped("2 0 0", "set height 0;"), 1, 0, 0);
        Check.row("add", shaped("2 0 0", "add height 7;"), 1, 57, 57);
        Check.row("add 0", shaped("2 0 0", "add height 0;"), 1, 50, 50);
        Check.row("add less than 0", shaped("2 0 0", "add height 0 - 7;"), 1, 43, 43);
        Check.row("add it to itself", shaped("2 0 0", "set height 20; add height height;"), 1, 40, 40);
    }

    private static void lengthIs1To99() {
        Check.quote("LENGTH is 1 at least, 99 at most then,");
        int[][] wants = {{0, 1}, {1, 1}, {2, 2}, {98, 98}, {99, 99}, {100, 99}, {9999, 99}};
        for (int[] want : wants) {
            Check.row("set length " + want[0], shaped("1 0 0", "set length " + want[0] + ";"), 5, want[1]);
        }
        Check.row("by 9 less", shaped("1 0 0", "add length 0 - 9;"), 5, 1);
        Check.row("by 10 less", shaped("1 0 0", "add length 0 - 10;"), 5, 1);
        Check.row("by 9999 less", shaped("1 0 0", "add length 0 - 9999;"), 5, 1);
        Check.row("by 89 more", shaped("1 0 0", "add length 89;"), 5, 99);
        Check.row("by 90 more", shaped("1 0 0", "add length 90;"), 5, 99);
        Check.row("behind each line, not the last alone", shaped("1 0 0", "set length 0; add length 1;"), 5, 2);
        Check.row("the like at most", shaped("1 0 0", "set length 9999; add length 0 - 1;"), 5, 98);
        power("1 0 0", "length", 9);
        Check.row("the next line sees it so", shaped("1 0 0", "set length 0; set power length;"), 2, 1);
    }

    private static void heightIsWithin999() {
        Check.quote("HEIGHT -999 to 999,");
        Check.row("999", shaped("1 0 0", "set height 999; add height 0 - 950;"), 1, 49);
        Check.row("1000", shaped("1 0 0", "set height 1000; add height 0 - 950;"), 1, 49);
        Check.row("998", shaped("1 0 0", "set height 998; add height 0 - 950;"), 1, 48);
        Check.row("by 949 more", shaped("1 0 0", "add height 949; add height 0 - 950;"), 1, 49);
        Check.row("by 950 more", shaped("1 0 0", "add height 950; add height 0 - 950;"), 1, 49);
        Check.row("-999", shaped("1 0 0", "set height 0 - 999; add height 1042;"), 1, 43);
        Check.row("-1000", shaped("1 0 0", "set height 0 - 1000; add height 1042;"), 1, 43);
        Check.row("-998", shaped("1 0 0", "set height 0 - 998; add height 1042;"), 1, 44);
        Check.row("by 1049 less", shaped("1 0 0", "add height 0 - 1049; add height 1042;"), 1, 43);
        Check.row("by 1050 less", shaped("1 0 0", "add height 0 - 1050; add height 1042;"), 1, 43);
        Check.row("lines see it ahead of the span", shaped("1 0 0", "set height 9999; set power 8 when height = 999;"), 2, 8);
        Check.row("the like below", shaped("1 0 0", "set height 0 - 9999; set power 8 when height = 0 - 999;"), 2, 8);
    }

    private static void powerIs0To9() {
        Check.quote("POWER 0 to 9.");
        int[][] wants = {{0, 0}, {1, 1}, {8, 8}, {9, 9}, {10, 9}, {9999, 9}};
        for (int[] want : wants) {
            power("1 0 0", "" + want[0], want[1]);
        }
        power("1 0 0", "0 - 1", 0);
        power("1 0 0", "0 - 9999", 0);
        Check.row("by 4 more", shaped("1 0 0", "add power 4;"), 2, 9);
        Check.row("by 5 more", shaped("1 0 0", "add power 5;"), 2, 9);
        Check.row("by 5 less", shaped("1 0 0", "add power 0 - 5;"), 2, 0);
        Check.row("by 6 less", shaped("1 0 0", "add power 0 - 6;"), 2, 0);
        Check.row("behind each line", shaped("1 0 0", "set power 0 - 7; add power 3;"), 2, 3);
        Check.row("behind each line, at most", shaped("1 0 0", "set power 70; add power 0 - 3;"), 2, 6);
    }

    private static void valuesAsTheyAre() {
        Check.quote("In E: the VALUES as they are of this SYLLABLE;");
        told("2 0 0", "length - 8", 2, 2);
        told("2 0 0", "height - 47", 3, 3);
        told("2 0 0", "power - 1", 4, 4);
        VoiceShaper x = shaped("3 0 0", "set length 20 + place; set height length + length; set power height - length - 20;");
        Check.row("of this syllable", x, 2, 0, 1, 2);
        x.hand(1, 0, 99);
        x.hand(1, 1, 0);
        Check.row("no line sees marks", x, 2, 0, 1, 2);
        x.manner(0, 41, 41, 1);
        Check.row("no line sees the span", x, 2, 0, 1, 2);
        x.speed(1, 100);
        Check.row("no line sees the speed", x, 2, 0, 1, 2);
    }

    private static final String TWO_PHRASES = "5 1 0, 5 4 0";

    private static void placeAndLeft() {
        Check.quote("place: its place in its PHRASE, from 0; left: SYLLABLES behind it there;");
        told(TWO_PHRASES, "place", 0, 1, 2, 3, 4, 0, 1, 2, 3, 4);
        told(TWO_PHRASES, "left", 4, 3, 2, 1, 0, 4, 3, 2, 1, 0);
        told("3 0 99, 2 0 0", "place", 0, 1, 2, 3, 4);
        told("3 0 99, 2 0 0", "left", 4, 3, 2, 1, 0);
        told("1 0 0", "place", 0);
        told("1 0 0", "left", 0);
        VoiceShaper x = new VoiceShaper();
        for (int n = 0; n < 16; n++) {
            x.word(5, 0, 99, false, false);
        }
        x.ideal(20);
        Check.rules(x, "set height place; set length left;");
        int many = x.phrase(0, 2);
        Check.due("height of the last of the first phrase", Check.shape(x, many - 1, 1), many - 1);
        Check.due("length of the first", Check.shape(x, 0, 5), many - 1);
        Check.due("height of the next", Check.shape(x, many, 1), 0);
    }

    private static void ofTheSyllableOfItsWord() {
        Check.quote("stress, accent, new, contrast: 1 or 0, of the SYLLABLE, of its WORD (accent: of a stressed one of an "
                + "ACCENTED WORD alone);");
        told("2 1 0 n, 3 0 0", "stress", 0, 1, 1, 0, 0);
        told("2 1 0 n, 3 0 0", "new", 1, 1, 0, 0, 0);
        told("2 1 0 n, 3 0 0 c", "contrast", 0, 0, 1, 1, 1);
        told("2 1 0 n, 3 0 0", "accent", 0, 1, 0, 0, 0);
        told("2 1 0 n, 3 2 0 c", "accent", 0, 0, 0, 0, 1);
        told("2 1 0, 3 2 0", "accent", 0, 0, 0, 0, 1);
        told("2 1 0 c, 3 2 0 c", "accent", 0, 1, 0, 0, 1);
        told("1 0 0", "stress + accent + new + contrast", 2);
        told("1 0 0 nc", "stress + accent + new + contrast", 4);
    }

    private static void phraseFinalWordTune() {
        Check.quote("phrase: its number, from 0; final: 1 in the last PHRASE; word: the WORD's number; tune.");
        told(TWO_PHRASES, "phrase", 0, 0, 0, 0, 0, 1, 1, 1, 1, 1);
        told(TWO_PHRASES, "final", 0, 0, 0, 0, 0, 1, 1, 1, 1, 1);
        told(TWO_PHRASES, "word", 0, 0, 0, 0, 0, 1, 1, 1, 1, 1);
        told("1 0 0, 1 0 0", "phrase", 0, 0);
        told("1 0 0, 1 0 0", "final", 1, 1);
        told("1 0 0, 1 0 0", "word", 0, 1);
        told("1 0 0, 1 0 0", "tune", 0, 0);
        VoiceShaper x = shaped("1 0 0, 1 0 0", "set power tune;");
        x.tune(3);
        Check.row("tune 3", x, 2, 3, 3);
        VoiceShaper all = new VoiceShaper();
        for (int n = 0; n < 16; n++) {
            all.word(5, 0, 0, false, false);
        }
        Check.rules(all, "set height word; set length phrase + 1; set power final;");
        for (int i : new int[] {0, 4, 5, 74, 75, 79}) {
            Check.due("word of " + i, Check.shape(all, i, 1), i / 5);
            Check.due("phrase of " + i, Check.shape(all, i, 5), i / 5 + 1);
            Check.due("final of " + i, Check.shape(all, i, 2), i / 75);
        }
    }

    private static void andOfBothSides() {
        Check.quote("\"and\": 1 if both sides are not 0.");
        told("1 0 0", "0 and 0", 0);
        told("1 0 0", "0 and 7", 0);
        told("1 0 0", "7 and 0", 0);
        told("1 0 0", "7 and 8", 1);
        told("1 0 0", "0 - 1 and 0 - 2", 1);
        told("1 0 0", "(0 - 1 and 1) + 3", 4);
        told("1 0 0", "7 and 8 and 0", 0);
        told("1 0 0", "7 and 8 and 9", 1);
        told("1 0 0", "2 and 4", 1);
        told("1 0 0", "3 - 3 and 1", 0);
        told("1 0 0", "1 and 1 + 1 = 2", 1);
    }

    private static void lessAndEqual() {
        Check.quote("<, = tell 1 or 0.");
        told("1 0 0", "(3 < 4) + 4", 5);
        told("1 0 0", "(4 < 4) + 4", 4);
        told("1 0 0", "(5 < 4) + 4", 4);
        told("1 0 0", "(3 = 4) + 4", 4);
        told("1 0 0", "(4 = 4) + 4", 5);
        told("1 0 0", "(5 = 4) + 4", 4);
        told("1 0 0", "(0 - 1 < 0) + 4", 5);
        told("1 0 0", "(0 < 0 - 1) + 4", 4);
        told("1 0 0", "(0 - 1 = 0 - 1) + 4", 5);
        told("1 0 0", "(0 - 9999 < 9999) + 4", 5);
        told("1 0 0", "8 < 7 + 2", 1);
    }

    private static void markedHeights() {
        Check.quote("Behind all lines HEIGHTS: those with a MARK by hand are that;");
        VoiceShaper x = shaped("3 0 0", "set height 55;");
        x.manner(0, 40, 60, 1);
        x.hand(0, 1, 0);
        x.hand(1, 1, 99);
        x.hand(2, 1, 0);
        Check.row("beyond span and slope", x, 1, 0, 99, 0);
        x.hand(1, 1, 39);
        x.hand(2, 1, 61);
        Check.row("just beyond the span", x, 1, 0, 39, 61);
        VoiceShaper y = shaped("1 0 0", "set height 20; set power 9 when height = 20;");
        y.hand(0, 1, 70);
        Check.row("behind all lines", y, 1, 70);
        Check.row("lines see no mark", y, 2, 9);
    }

    private static void othersIntoTheSpan() {
        Check.quote("all others are brought into the span;");
        VoiceShaper x = shaped("5 0 0", "set height 39; set height 40 when place = 1; set height 50 when place = 2; "
                + "set height 60 when left = 1; set height 61 when left = 0;");
        x.manner(0, 40, 60, 99);
        Check.row("to 40 or to 60", x, 1, 40, 40, 50, 60, 60);
        x.manner(0, 50, 50, 99);
        Check.row("a span of one", x, 1, 50, 50, 50, 50, 50);
        Check.rules(x, "set height 999; set height 0 - 999 when place;");
        x.manner(0, 40, 60, 99);
        Check.row("from far off", x, 1, 60, 40, 40, 40, 40);
    }

    private static void slopeFromTheFirstOn() {
        Check.quote("then, from the first SYLLABLE on, each without a MARK is brought to within the slope of the one ahead;");
        int[][] wants = {{59, 59}, {60, 60}, {61, 60}, {99, 60}, {41, 41}, {40, 40}, {39, 40}, {0, 40}};
        for (int[] want : wants) {
            VoiceShaper x = shaped("2 0 0", "set height " + want[0] + " when place;");
            x.manner(0, 0, 99, 10);
            Check.row("behind 50 within 10: " + want[0], x, 1, 50, want[1]);
        }
        VoiceShaper up = shaped("4 0 0", "set height 99 when place;");
        up.manner(0, 0, 99, 10);
        Check.row("from the first on: up", up, 1, 50, 60, 70, 80);
        VoiceShaper down = shaped("4 0 0", "set height 0 when place;");
        down.manner(0, 0, 99, 10);
        Check.row("from the first on: down", down, 1, 50, 40, 30, 20);
        down.hand(1, 1, 90);
        Check.row("a mark stays, those behind follow it", down, 1, 80, 90, 80, 70);
        VoiceShaper narrow = shaped("2 0 0", "set height 99 when place;");
        narrow.manner(0, 0, 99, 1);
        Check.row("slope 1", narrow, 1, 50, 51);
        VoiceShaper phrases = shaped(TWO_PHRASES, "set height 99 when phrase;");
        phrases.manner(0, 0, 99, 10);
        Check.row("across the end of a phrase", phrases, 1, 50, 50, 50, 50, 50, 60, 70, 80, 90, 99);
    }

    private static void slopeFromTheLastBack() {
        Check.quote("then, from the last one back, each without a MARK to within the slope of the one behind.");
        int[][] wants = {{60, 50, 50}, {61, 50, 51}, {70, 50, 60}, {71, 51, 61}, {99, 79, 89}, {40, 50, 50}, {39, 50, 49},
            {30, 50, 40}, {29, 49, 39}, {0, 20, 10}};
        for (int[] want : wants) {
            VoiceShaper x = Check.sentence("3 0 0");
            x.manner(0, 45, 55, 10);
            x.hand(2, 1, want[0]);
            Check.row("ahead of " + want[0] + " within 10", x, 1, want[1], want[2], want[0]);
        }
        VoiceShaper between = Check.sentence("3 0 0");
        between.manner(0, 0, 99, 10);
        between.hand(0, 1, 0);
        between.hand(2, 1, 50);
        Check.row("the one behind is heard last", between, 1, 0, 40, 50);
        VoiceShaper x = Check.sentence("3 0 0");
        x.manner(0, 50, 50, 1);
        x.hand(1, 1, 99);
        Check.row("not brought into the span again", x, 1, 98, 99, 98);
        x.hand(1, 1, 0);
        Check.row("the like below", x, 1, 1, 0, 1);
        VoiceShaper phrases = Check.sentence(TWO_PHRASES);
        phrases.manner(0, 0, 99, 10);
        phrases.hand(5, 1, 80);
        Check.row("across the end of a phrase", phrases, 1, 50, 50, 50, 60, 70, 80, 70, 60, 50, 50);
    }

    private static void fitAtTheEdge() {
        Check.quote("It is FIT if then each is within the slope of its neighbours.");
        int[][] wants = {{50, 60, 1}, {50, 61, 0}, {60, 50, 1}, {61, 50, 0}, {50, 50, 1}, {0, 99, 0}, {99, 0, 0}};
        for (int[] want : wants) {
            VoiceShaper x = Check.sentence("2 0 0");
            x.manner(0, 0, 99, 10);
            x.hand(0, 1, want[0]);
            x.hand(1, 1, want[1]);
            Check.due(want[0] + " beside " + want[1] + " within 10", x.fit(), want[2]);
            x.word(5, 0, 0, false, false);
            Check.due("the first two of more", x.fit(), want[2]);
            VoiceShaper last = Check.sentence("5 0 0, 2 0 0");
            last.manner(0, 0, 99, 10);
            last.hand(5, 1, want[0]);
            last.hand(6, 1, want[1]);
            Check.due("the last two of more", last.fit(), want[2]);
        }
        VoiceShaper between = Check.sentence("3 0 0");
        between.manner(0, 0, 99, 10);
        between.hand(0, 1, 50);
        between.hand(2, 1, 70);
        Check.due("one between two marks, room enough", between.fit(), 1);
        between.hand(2, 1, 71);
        Check.due("one between two marks, no room", between.fit(), 0);
        VoiceShaper all = Check.sentence(TWO_PHRASES);
        all.hand(4, 1, 0);
        all.hand(5, 1, 99);
        Check.due("slope 99", all.fit(), 1);
        all.manner(0, 0, 99, 98);
        Check.due("slope 98, across the end of a phrase", all.fit(), 0);
    }

    private static void marksOfLengthAndPower() {
        Check.quote("MARKS by hand for LENGTH (1 .. 99), POWER (0 .. 9) stand in place of what the lines tell, behind all "
                + "lines.");
        VoiceShaper x = shaped("2 0 0", "set length 20; set power 4; add length power; add power length - 20;");
        int[][] lengths = {{1, 1}, {0, 0}, {-2, 0}, {100, 0}, {99, 1}, {100, 0}, {50, 1}};
        int mark = 24;
        for (int[] v : lengths) {
            Check.due("length " + v[0], x.hand(1, 0, v[0]) ? 1 : 0, v[1]);
            mark = v[1] == 1 ? v[0] : mark;
            Check.row("behind length " + v[0], x, 5, 24, mark);
            Check.row("lines see no mark", x, 2, 8, 8);
        }
        x.hand(1, 0, -1);
        int[][] powers = {{0, 1}, {-2, 0}, {10, 0}, {9, 1}, {10, 0}, {1, 1}};
        mark = 8;
        for (int[] v : powers) {
            Check.due("power " + v[0], x.hand(0, 2, v[0]) ? 1 : 0, v[1]);
            mark = v[1] == 1 ? v[0] : mark;
            Check.row("behind power " + v[0], x, 2, mark, 8);
            Check.row("lines see no mark, too", x, 5, 24, 24);
        }
        x.hand(0, 2, -1);
        Check.row("what the lines tell again", x, 2, 8, 8);
    }

    private static void speedIs1To100() {
        Check.quote("SPEED p of q (1 .. 100 each; 1 of 1 at first):");
        VoiceShaper x = Check.sentence("1 0 0");
        Check.row("1 of 1 at first", x, 0, 10);
        int[][] wants = {{0, 1, 0, 10}, {1, 0, 0, 10}, {100, 1, 1, 1000}, {101, 1, 0, 1000}, {1, 100, 1, 0}, {1, 101, 0, 0},
            {100, 100, 1, 10}, {101, 101, 0, 10}, {0, 0, 0, 10}, {-1, -1, 0, 10}, {1, 1, 1, 10}, {MOST, 1, 0, 10},
            {1, LEAST, 0, 10}, {LEAST, MOST, 0, 10}, {1, 10, 1, 1}, {1, 11, 1, 0}};
        for (int[] want : wants) {
            String about = "speed(" + want[0] + ", " + want[1] + ")";
            Check.due(about, x.speed(want[0], want[1]) ? 1 : 0, want[2]);
            Check.row("behind " + about, x, 0, want[3]);
        }
    }

    private static void lengthTold() {
        Check.quote("the LENGTH told of SYLLABLE i is (the sum up to it) * p / q, cut, less the like up to the one ahead.");
        VoiceShaper x = shaped("4 0 0", "set length 1; set length 7 when left = 0;");
        int[][] wants = {{1, 1, 1, 1, 1, 7}, {2, 3, 0, 1, 1, 4}, {1, 2, 0, 1, 0, 4}, {3, 2, 1, 2, 1, 11}, {1, 100, 0, 0, 0, 0},
            {100, 1, 100, 100, 100, 700}, {100, 99, 1, 1, 1, 7}, {99, 100, 0, 1, 1, 7}, {1, 10, 0, 0, 0, 1}};
        for (int[] want : wants) {
            x.speed(want[0], want[1]);
            Check.row(want[0] + " of " + want[1], x, 0, want[2], want[3], want[4], want[5]);
            Check.row("ahead of it", x, 5, 1, 1, 1, 7);
        }
        x.hand(0, 0, 99);
        x.speed(1, 2);
        Check.row("a mark is in the sum", x, 0, 49, 1, 0, 4);
        VoiceShaper all = new VoiceShaper();
        for (int n = 0; n < 16; n++) {
            all.word(5, 0, 0, false, false);
        }
        Check.rules(all, "set length 99;");
        all.speed(100, 1);
        Check.due("the last of the longest", Check.shape(all, 79, 0), 9900);
        all.speed(1, 100);
        for (int i = 0; i < 80; i++) {
            Check.due("99 * " + (i + 1) + " / 100", Check.shape(all, i, 0), i == 0 ? 0 : 1);
        }
    }

    private static final String HAND = "A MARK by hand for a SYLLABLE of the READING in hand, what 0: LENGTH, 1: HEIGHT "
            + "(0 .. 99), 2: POWER; -1: none any more: true; false: no such SYLLABLE, what, number.";

    private static void handAndItsEdges() {
        Check.quote(HAND);
        int[][] edges = {{0, 1, 99}, {1, 0, 99}, {2, 0, 9}};
        int[] first = {10, 50, 5};
        for (int[] e : edges) {
            VoiceShaper x = Check.sentence("2 0 0, 1 0 0");
            for (int syllable : new int[] {0, 2}) {
                for (int v : new int[] {e[1], e[2]}) {
                    Check.yes("hand(" + syllable + ", " + e[0] + ", " + v + ")", x.hand(syllable, e[0], v));
                    Check.due("it stands", Check.shape(x, syllable, e[0]), v);
                    Check.due("one mark", x.count(7), 1);
                }
                Check.yes("none any more", x.hand(syllable, e[0], -1));
                Check.due("as the lines tell", Check.shape(x, syllable, e[0]), first[e[0]]);
                Check.due("no mark", x.count(7), 0);
                Check.yes("none any more, where none is", x.hand(syllable, e[0], -1));
                Check.due("no mark still", x.count(7), 0);
            }
        }
        VoiceShaper x = Check.sentence("1 0 0");
        x.reading();
        Check.yes("of the reading in hand", x.hand(0, 2, 9));
        x.take(0);
        Check.row("not of the other one", x, 2, 5);
        VoiceShaper all = Check.sentence("5 0 0");
        for (int n = 1; n < 16; n++) {
            all.word(5, 0, 0, false, false);
        }
        for (int i = 0; i < 80; i++) {
            for (int what = 0; what < 3; what++) {
                all.hand(i, what, 9);
            }
        }
        Check.due("a mark of each kind on each of 80", all.count(7), 240);
        Check.due("on the last, too", Check.shape(all, 79, 2), 9);
    }

    private static void handIsRefused() {
        Check.quote(HAND);
        int[][] others = {{-1, 0, 5}, {7, 0, 5}, {8, 0, 5}, {79, 0, 5}, {80, 0, 5}, {LEAST, 0, 5}, {MOST, 0, 5}, {-1, 0, -1},
            {7, 0, -1}, {0, -1, 5}, {0, 3, 5}, {0, LEAST, 5}, {0, MOST, 5}, {0, -1, -1}, {0, 3, -1}, {1, 0, 0}, {1, 0, 100},
            {1, 0, -2}, {1, 0, LEAST}, {1, 0, MOST}, {2, 1, 100}, {2, 1, -2}, {2, 1, LEAST}, {2, 1, MOST}, {3, 2, 10},
            {3, 2, -2}, {3, 2, 99}, {3, 2, LEAST}, {3, 2, MOST}};
        for (int[] o : others) {
            Refusal.of("hand(" + o[0] + ", " + o[1] + ", " + o[2] + ")", 0, x -> x.hand(o[0], o[1], o[2]) ? 1 : 0);
        }
        Refusal.of("hand(0, 0, 5) without words", 0, VoiceShaper::new, x -> x.hand(0, 0, 5) ? 1 : 0);
    }

    private static void speedIsRefused() {
        Check.quote("SPEED: true; false: other numbers.");
        for (int[] o : new int[][] {{0, 1}, {1, 0}, {0, 0}, {101, 1}, {1, 101}, {-1, 1}, {1, -1}, {-1, -1}, {LEAST, 1}, {1, LEAST},
            {MOST, 1}, {1, MOST}}) {
            Refusal.of("speed(" + o[0] + ", " + o[1] + ")", 0, x -> x.speed(o[0], o[1]) ? 1 : 0);
        }
        VoiceShaper x = Check.sentence("1 0 0");
        Check.yes("speed(3, 2)", x.speed(3, 2));
        Check.row("it holds", x, 0, 15);
        x.reading();
        Check.row("of another reading, too", x, 0, 15);
        x.manner(1, 0, 99, 99);
        Check.row("of another manner, too", x, 0, 15);
    }

    private static final String SHAPE = "Of a SYLLABLE in the SHAPE, what 0: LENGTH as told by the SPEED, 1: HEIGHT, 2: POWER, "
            + "3: its WORD, 4: its PHRASE, 5: LENGTH ahead of SPEED. NoSuchElementException: none such.";

    private static void ofASyllable() {
        Check.quote(SHAPE);
        VoiceShaper x = shaped("5 0 0, 1 0 0, 4 0 0", "set length 20 + place; set height 30 + word; set power phrase + 7;");
        x.speed(1, 2);
        Check.due("5 | 1 + 4", x.phrase(0, 2), 5);
        int[][] wants = {{10, 30, 7, 0, 0, 20}, {12, 30, 7, 0, 0, 24}, {10, 31, 8, 1, 1, 20}, {12, 32, 8, 2, 1, 24}};
        int[] syllables = {0, 4, 5, 9};
        for (int n = 0; n < syllables.length; n++) {
            for (int what = 0; what <= 5; what++) {
                Check.due("shape(" + syllables[n] + ", " + what + ")", Check.shape(x, syllables[n], what), wants[n][what]);
            }
        }
    }

    private static void noSuchSyllable() {
        Check.quote(SHAPE);
        for (int what = 0; what <= 5; what++) {
            for (int i : new int[] {LEAST, -1, 7, 8, 79, 80, MOST}) {
                thrown(i, what);
            }
        }
        for (int i : new int[] {0, 6}) {
            for (int what : new int[] {LEAST, -1, 6, 7, MOST}) {
                thrown(i, what);
            }
        }
        Refusal.of("shape(0, 0) without words", 1, VoiceShaper::new, x -> throwsIt(x, 0, 0));
        VoiceShaper x = Check.sentence("2 0 0");
        Check.due("the last one", Check.shape(x, 1, 0), 10);
        x.change(0, 1, 0, 0, false, false);
        Check.throwsNone("it is none such then", x, 1, 0);
    }

    private static void thrown(int syllable, int what) {
        Refusal.of("shape(" + syllable + ", " + what + ") throws", 1, x -> throwsIt(x, syllable, what));
    }

    /** 1 where NoSuchElementException itself is thrown, not one of another class below or above it. */
    private static int throwsIt(VoiceShaper x, int syllable, int what) {
        try {
            x.shape(syllable, what);
            return 0;
        } catch (RuntimeException e) {
            return e.getClass() == NoSuchElementException.class ? 1 : 2;
        }
    }

    private static void fitIs1Or0() {
        Check.quote("Whether the SHAPE is FIT: 1 or 0.");
        Check.due("without words", new VoiceShaper().fit(), 1);
        VoiceShaper x = Check.sentence("1 0 0");
        x.manner(0, 10, 20, 1);
        x.hand(0, 1, 99);
        Check.due("one syllable, its mark beyond the span", x.fit(), 1);
        x.word(1, 0, 0, false, false);
        Check.due("a second one follows", x.fit(), 1);
        x.hand(1, 1, 97);
        Check.due("a mark too far off", x.fit(), 0);
        x.reading();
        x.hand(1, 1, 98);
        Check.due("of the reading in hand", x.fit(), 1);
        x.take(0);
        Check.due("the other one is not", x.fit(), 0);
        x.manner(1, 0, 99, 2);
        Check.due("in another manner", x.fit(), 1);
    }
}
