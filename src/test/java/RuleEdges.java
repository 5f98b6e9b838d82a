/** Edges of manners, the tape and its texts: part 2 of the terms, promises 8 to 10. */
final class RuleEdges {
    private static final int MOST = Integer.MAX_VALUE;
    private static final int LEAST = Integer.MIN_VALUE;
    private static final int CANNOT_STAND = 1;
    private static final int TOO_MANY = 5;
    private static final String[] PARTS = {"length", "height", "power", "place", "left", "stress", "accent", "new",
        "contrast", "phrase", "final", "word", "tune"};
    private static final String[] NO_PARTS = {"set", "add", "when", "and", "a", "z", "le", "heights", "contras", "lengthen",
        "contrasts", "12345", "#", "~", "A", "NEW", "_", ")", "<", "=", "+", "-", ";", ""};

    private RuleEdges() {
    }

    static void all() {
        mannersAre0To3();
        noRulesAtFirst();
        spanIs0To99();
        slopeIs1To99();
        tapeHas1000Signs();
        signsOfTheTape();
        whatReadsItTakesIt();
        tokensAreAsLongAsCanBe();
        blanksBetween();
        wordsHave8Letters();
        numbersHave4Digits();
        signs();
        allElseIsNone();
        linesAre24AtMost();
        howALineIsMade();
        theThreeValues();
        howAnEIsMade();
        howATestIsMade();
        howASumIsMade();
        parts();
        fiveWithinOneAnother();
        leftOutAndAnyMore();
        placesOfFaults();
        theFirstTokenThatIsWrong();
        cannotStandThere();
        tooMany();
        mannerAndItsEdges();
        mannerIsRefused();
        feedAndItsSigns();
        feedBeyond1000();
        rulesInPlaceOfThoseItHad();
        rulesAreRefused();
    }

    private static void fault(String text, int kind, int place) {
        VoiceShaper x = new VoiceShaper();
        Check.due("rules of \"" + text.replace("\n", "\\n") + "\"", Check.rules(x, text), kind + 16 * place);
        Check.due("lines of \"" + text + "\"", x.count(5), 0);
    }

    private static void right(String text, int lines) {
        VoiceShaper x = new VoiceShaper();
        Check.due("rules of \"" + text.replace("\n", "\\n") + "\"", Check.rules(x, text), 0);
        Check.due("lines of \"" + text + "\"", x.count(5), lines);
    }

    /** The power that a line sets for the only syllable. */
    private static void power(String e, int want) {
        VoiceShaper x = Check.sentence("1 0 0");
        Check.due("rules of " + e, Check.rules(x, "set power " + e + ";"), 0);
        Check.row(e, x, 2, want);
    }

    private static void mannersAre0To3() {
        Check.quote("MANNERS 0 to 3, 0 in hand at first,");
        VoiceShaper x = new VoiceShaper();
        Check.due("0 in hand at first", x.count(4), 0);
        int inHand = 0;
        for (int m : new int[] {LEAST, -1, 4, 3, -1, 4, 5, MOST, 0, 1, 2}) {
            boolean right = m >= 0 && m <= 3;
            Check.due("manner(" + m + ", ..)", x.manner(m, 0, 99, 99) ? 1 : 0, right ? 1 : 0);
            inHand = right ? m : inHand;
            Check.due("in hand behind manner(" + m + ", ..)", x.count(4), inHand);
        }
    }

    private static void noRulesAtFirst() {
        Check.quote("each with RULES (none at first),");
        VoiceShaper x = Check.sentence("1 0 0");
        for (int m = 0; m <= 3; m++) {
            x.manner(m, 0, 99, 99);
            Check.due("lines of manner " + m, x.count(5), 0);
            Check.due("power without lines", Check.shape(x, 0, 2), 5);
            Check.rules(x, "set power 6; set power 1;".substring(0, m % 2 == 0 ? 12 : 25));
        }
        for (int m = 0; m <= 3; m++) {
            x.manner(m, 0, 99, 99);
            Check.due("its own lines, manner " + m, x.count(5), 1 + m % 2);
            Check.due("its own power, manner " + m, Check.shape(x, 0, 2), m % 2 == 0 ? 6 : 1);
        }
    }

    private static void spanIs0To99() {
        Check.quote("a span of heights low .. high (0 .. 99; 0 .. 99 at first)");
        VoiceShaper x = Check.sentence("4 0 0");
        Check.rules(x, "set height 0 - 1; set height 0 when place = 1; set height 99 when left = 1; "
                + "set height 100 when left = 0;");
        Check.row("0 .. 99 at first", x, 1, 0, 0, 99, 99);
        int[][] spans = {{0, 0}, {99, 99}, {0, 99}, {1, 98}, {50, 50}};
        for (int[] s : spans) {
            Check.yes("span " + s[0] + " .. " + s[1], x.manner(0, s[0], s[1], 99));
            Check.row("span " + s[0] + " .. " + s[1], x, 1, s[0], s[0], s[1], s[1]);
        }
        int[][] others = {{-1, 99}, {0, 100}, {-1, -1}, {100, 100}, {51, 50}, {99, 0}, {LEAST, 99}, {0, MOST},
            {LEAST, MOST}, {MOST, LEAST}};
        for (int[] s : others) {
            Check.no("span " + s[0] + " .. " + s[1], x.manner(0, s[0], s[1], 99));
            Check.row("the span stays", x, 1, 50, 50, 50, 50);
        }
    }

    private static void slopeIs1To99() {
        Check.quote("and a slope (1 .. 99; 99 at first).");
        VoiceShaper x = Check.sentence("3 0 0");
        Check.rules(x, "set height 0; set height 99 when place = 1;");
        Check.row("99 at first", x, 1, 0, 99, 0);
        Check.due("fit at first", x.fit(), 1);
        int slope = 99;
        for (int s : new int[] {0, 100, -1, 1, 0, 100, LEAST, MOST, 98, 99, 100}) {
            boolean right = s >= 1 && s <= 99;
            Check.due("slope " + s, x.manner(0, 0, 99, s) ? 1 : 0, right ? 1 : 0);
            slope = right ? s : slope;
            Check.row("behind slope " + s, x, 1, 0, slope, 0);
        }
    }

    private static void tapeHas1000Signs() {
        Check.quote("The TAPE has at most 1,000 signs,");
        VoiceShaper x = new VoiceShaper();
        Check.feed(x, " ".repeat(984));
        Check.due("999", Check.feed(x, " ".repeat(15)), 999);
        Check.due("1000", Check.feed(x, " "), 1000);
        Check.due("one more", Check.feed(x, " "), 1000);
        Check.due("24 more", Check.feed(x, "x".repeat(24)), 1000);
        Check.due("count(6)", x.count(6), 1000);
        Check.due("none of them came", x.rules(), 0);
    }

    private static void signsOfTheTape() {
        Check.quote("10 and 32 .. 126;");
        for (int sign = 0; sign <= 255; sign++) {
            int want = sign == 10 || sign >= 32 && sign <= 126 ? 1 : 0;
            VoiceShaper x = new VoiceShaper();
            Check.due("sign " + sign, x.feed(sign, 0, 0), want);
            Check.due("sign " + sign + ", the highest", x.feed(0, (long) sign << 56, 0), 2 * want);
            Check.due("sign " + sign + " in c", x.feed(0, 0, (long) sign << 24), 3 * want);
        }
    }

    private static void whatReadsItTakesIt() {
        Check.quote("what reads it takes it: it is empty then.");
        VoiceShaper x = new VoiceShaper();
        Check.due("a right text", Check.rules(x, "set power 1;"), 0);
        Check.due("it is empty then", x.count(6), 0);
        Check.due("a wrong text", Check.rules(x, "set power;"), CANNOT_STAND + 16 * 9);
        Check.due("it is empty then, too", x.count(6), 0);
        Check.due("signs behind it are the first", Check.feed(x, "set power 1"), 11);
        Check.due("their end", x.rules(), CANNOT_STAND + 16 * 11);
        Check.due("an empty one", x.rules(), 0);
        Check.due("is empty", x.count(6), 0);
        Check.feed(x, " ".repeat(1000));
        x.rules();
        Check.due("a full one is empty then", x.count(6), 0);
        Check.due("and takes signs again", Check.feed(x, "x"), 1);
    }

    private static void tokensAreAsLongAsCanBe() {
        Check.quote("TOKENS, each as long as can be,");
        power("12 - 9", 3);
        power("1000 - 999", 1);
        fault("setpower 1;", CANNOT_STAND, 0);
        fault("set powerplace;", CANNOT_STAND, 4);
        fault("set power placeand 1;", CANNOT_STAND, 10);
        fault("set power 1 2;", CANNOT_STAND, 12);
        fault("set power 1 andplace;", CANNOT_STAND, 12);
    }

    private static void blanksBetween() {
        Check.quote("blanks (10, 32) between where one likes:");
        right("set power(1)<place+2and(tune)=0when left-1;", 1);
        right("\n \nset\n\npower \n1  ;  \n", 1);
        right(" set power 1 ; set power 2 ; ", 2);
        right("set power 1;set power 2;", 2);
        right(" ", 0);
        right("\n", 0);
        right("", 0);
        fault("s et power 1;", CANNOT_STAND, 0);
        fault("set po\nwer 1;", CANNOT_STAND, 4);
        power("1 + 1", 2);
    }

    private static void wordsHave8Letters() {
        Check.quote("WORDS (letters a .. z, 8 at most),");
        right("set power contrast;", 1);
        fault("set power contrasts;", CANNOT_STAND, 10);
        fault("set power accentaccent;", CANNOT_STAND, 10);
        fault("set power abcdefgh;", CANNOT_STAND, 10);
        fault("set power 1 `;", CANNOT_STAND, 12);
        fault("set power place`;", CANNOT_STAND, 15);
        fault("set power place{;", CANNOT_STAND, 15);
        for (char letter = 'a'; letter <= 'z'; letter++) {
            fault("set power place" + letter + ";", CANNOT_STAND, 10);
            fault("set power " + letter + "place;", CANNOT_STAND, 10);
        }
        for (String part : PARTS) {
            for (int at = 0; at < part.length(); at++) {
                String other = part.substring(0, at) + "q" + part.substring(at + 1);
                fault("set power " + other + ";", CANNOT_STAND, 10);
                fault("set power " + part.substring(0, at) + part.substring(at + 1) + ";", CANNOT_STAND, 10);
            }
        }
        fault("wet power 1;", CANNOT_STAND, 0);
        fault("odd power 1;", CANNOT_STAND, 0);
        fault("set power 1 then 1;", CANNOT_STAND, 12);
        fault("set power 1 end 1;", CANNOT_STAND, 12);
        fault("set power placE;", CANNOT_STAND, 10);
        fault("set power place_x;", CANNOT_STAND, 15);
        fault("Set power 1;", CANNOT_STAND, 0);
    }

    private static void numbersHave4Digits() {
        Check.quote("NUMBERS (1 to 4 digits; a letter may stand right behind),");
        power("0", 0);
        power("9", 9);
        power("0007", 7);
        power("9999 - 9995", 4);
        power("1 - 0000", 1);
        power("3when 1and 2", 3);
        power("3when 0and 2", 5);
        fault("set power 10000;", CANNOT_STAND, 10);
        fault("set power 00000;", CANNOT_STAND, 10);
        fault("set power 123456789;", CANNOT_STAND, 10);
        fault("set power 1/2;", CANNOT_STAND, 11);
        fault("set power 1:;", CANNOT_STAND, 11);
        fault("set power 12345when 1;", CANNOT_STAND, 10);
    }

    private static void signs() {
        Check.quote("the signs ( ) < = + - and the semicolon.");
        right("set power (1)<2and 3=4+5-6;", 1);
        for (int sign = 33; sign <= 126; sign++) {
            boolean digit = sign >= '0' && sign <= '9';
            boolean joins = sign == '<' || sign == '=' || sign == '+' || sign == '-';
            if (sign == ';') {
                right("set power 1;", 1);
            } else {
                // A digit or a joining sign can stand there: then the end can not.
                fault("set power 1" + (char) sign, CANNOT_STAND, digit || joins ? 12 : 11);
            }
        }
    }

    private static void allElseIsNone() {
        Check.quote("All else (a longer WORD or NUMBER, too, at its first sign) is none.");
        fault("setsetset power 1;", CANNOT_STAND, 0);
        fault("set power 1; addaddadd power 1;", CANNOT_STAND, 13);
        fault("set power 1 + abcdefghi;", CANNOT_STAND, 14);
        fault("set power 1 + 99999;", CANNOT_STAND, 14);
        fault("set power 1 + 99999999999999999999999;", CANNOT_STAND, 14);
        fault("set power 4294967297;", CANNOT_STAND, 10);
        for (char sign : "!\"#$%&'*,./:>?@[\\]^_`{|}~ABCXYZ".toCharArray()) {
            fault(sign + "", CANNOT_STAND, 0);
            fault("set power 1" + sign + ";", CANNOT_STAND, 11);
            fault("set power " + sign + ";", CANNOT_STAND, 10);
            fault("set power 1 + " + sign + "1;", CANNOT_STAND, 14);
        }
        // What is left out of the tape is none of its signs.
        VoiceShaper x = new VoiceShaper();
        x.feed(Check.pack("set pow", 0) | 0xFF, Check.pack("er 1;", 0), -1L);
        Check.due("left out signs", x.rules(), 0);
    }

    private static void linesAre24AtMost() {
        Check.quote("RULES: 24 lines at most");
        String line = "set power 1;";
        for (int n : new int[] {0, 1, 23, 24}) {
            right(line.repeat(n), n);
            right(line.repeat(n) + "\n ", n);
        }
        fault(line.repeat(25), TOO_MANY, 288);
        fault("add power 1;".repeat(25), TOO_MANY, 288);
        fault(line.repeat(80), TOO_MANY, 288);
        VoiceShaper x = Check.sentence("2 0 0");
        Check.due("24 lines", Check.rules(x, "add height 1;".repeat(24)), 0);
        Check.row("all are worked out", x, 1, 74, 74);
        Check.due("23 lines with tests", Check.rules(x, "add height 1 when 1;".repeat(23) + "set power 7 when place;"), 0);
        Check.row("the last is worked out like the first", x, 2, 5, 7);
        Check.row("the others, too", x, 1, 73, 73);
    }

    private static void howALineIsMade() {
        Check.quote("set VALUE E [ when E ] ; or add VALUE E [ when E ] ;");
        for (String first : new String[] {"set", "add"}) {
            right(first + " power 1;", 1);
            right(first + " power 1 when 1;", 1);
            fault(first, CANNOT_STAND, 3);
            fault(first + ";", CANNOT_STAND, 3);
            fault(first + " power", CANNOT_STAND, 9);
            fault(first + " power;", CANNOT_STAND, 9);
            fault(first + " power when 1;", CANNOT_STAND, 10);
            fault(first + " power 1", CANNOT_STAND, 11);
            fault(first + " power 1 when", CANNOT_STAND, 16);
            fault(first + " power 1 when;", CANNOT_STAND, 16);
            fault(first + " power 1 when 1", CANNOT_STAND, 18);
            fault(first + " power 1 when 1 when 1;", CANNOT_STAND, 19);
            fault(first + " power 1;;", CANNOT_STAND, 12);
            fault(first + " power = 1;", CANNOT_STAND, 10);
            fault(first + " " + first + " power 1;", CANNOT_STAND, 4);
            fault(first + " power 1 " + first + " power 1;", CANNOT_STAND, 12);
        }
        fault(";", CANNOT_STAND, 0);
        fault("power 1;", CANNOT_STAND, 0);
        fault("when 1;", CANNOT_STAND, 0);
        fault("1;", CANNOT_STAND, 0);
    }

    private static void theThreeValues() {
        Check.quote("VALUE: length, height, power.");
        for (int n = 0; n < PARTS.length; n++) {
            if (n < 3) {
                right("set " + PARTS[n] + " 1;", 1);
                right("add " + PARTS[n] + " 1;", 1);
            } else {
                fault("set " + PARTS[n] + " 1;", CANNOT_STAND, 4);
                fault("add " + PARTS[n] + " 1;", CANNOT_STAND, 4);
            }
        }
        for (String none : NO_PARTS) {
            fault("set " + none + " 1;", CANNOT_STAND, none.isEmpty() ? 5 : 4);
        }
        fault("set (power) 1;", CANNOT_STAND, 4);
        VoiceShaper x = Check.sentence("1 0 0");
        Check.rules(x, "set length 1; set height 2; set power 3;");
        Check.row("length", x, 5, 1);
        Check.row("height", x, 1, 2);
        Check.row("power", x, 2, 3);
    }

    private static void howAnEIsMade() {
        Check.quote("E: TEST { and TEST }.");
        power("1 and 1", 1);
        power("1 and 1 and 1 and 0", 0);
        power("1 < 2 and 2 < 3 and 3 = 3", 1);
        power("1" + " and 1".repeat(160), 1);
        fault("set power and 1;", CANNOT_STAND, 10);
        fault("set power 1 and;", CANNOT_STAND, 15);
        fault("set power 1 and and 1;", CANNOT_STAND, 16);
    }

    private static void howATestIsMade() {
        Check.quote("TEST: SUM [ < SUM or = SUM ].");
        power("1", 1);
        power("1 < 2", 1);
        power("1 = 2", 0);
        power("1 + 1 = 3 - 1", 1);
        fault("set power 1 < 2 < 3;", CANNOT_STAND, 16);
        fault("set power 1 < 2 = 3;", CANNOT_STAND, 16);
        fault("set power 1 = 2 < 3;", CANNOT_STAND, 16);
        fault("set power 1 = 2 = 3;", CANNOT_STAND, 16);
        fault("set power 1 = 2 + 4 = 3;", CANNOT_STAND, 20);
        fault("set power < 1;", CANNOT_STAND, 10);
        fault("set power 1 <;", CANNOT_STAND, 13);
        fault("set power 1 <= 2;", CANNOT_STAND, 13);
        right("set power (1 < 2) < (3 = 4) and 1 = 2 when 1 = 2 and 1 = (2 = 3);", 1);
    }

    private static void howASumIsMade() {
        Check.quote("SUM: PART { + or - PART }.");
        power("3", 3);
        power("1 + 2", 3);
        power("9 - 4 - 3", 2);
        power("9 - (4 - 3)", 8);
        power("0" + "+1-1".repeat(240) + "+7", 7);
        fault("set power -1;", CANNOT_STAND, 10);
        fault("set power +1;", CANNOT_STAND, 10);
        fault("set power 1+;", CANNOT_STAND, 12);
        fault("set power 1--1;", CANNOT_STAND, 12);
        fault("set power 1+-1;", CANNOT_STAND, 12);
        // The greatest number that a text of 1,000 signs can tell, and the least.
        VoiceShaper x = Check.sentence("1 0 0");
        Check.due("the greatest sum", Check.rules(x, "set power 9999" + "+9999".repeat(197) + ";"), 0);
        Check.row("is 9 at most", x, 2, 9);
        Check.due("the least sum", Check.rules(x, "set power 0" + "-9999".repeat(197) + ";"), 0);
        Check.row("is 0 at least", x, 2, 0);
    }

    private static void parts() {
        Check.quote("PART: N, a VALUE, place, left, stress, accent, new, contrast, phrase, final, word, tune, ( E );");
        for (String part : PARTS) {
            right("set power " + part + ";", 1);
            right("set power (" + part + ") when " + part + ";", 1);
        }
        for (String none : NO_PARTS) {
            fault("set power " + none, CANNOT_STAND, 10);
            fault("set power 1 + " + none, CANNOT_STAND, 14);
            fault("set power (" + none, CANNOT_STAND, 11);
        }
        fault("set power ();", CANNOT_STAND, 11);
        fault("set power (1;", CANNOT_STAND, 12);
        fault("set power (1", CANNOT_STAND, 12);
        fault("set power 1);", CANNOT_STAND, 11);
        fault("set power (1));", CANNOT_STAND, 13);
        fault("set power (1 when 1);", CANNOT_STAND, 13);
        fault("set power (1)(1);", CANNOT_STAND, 13);
        fault("set power 1(1);", CANNOT_STAND, 11);
        fault("set power (1)1;", CANNOT_STAND, 13);
    }

    private static void fiveWithinOneAnother() {
        Check.quote("5 within one another.");
        power("((((3))))", 3);
        fault("set power (((((3)))));", TOO_MANY, 15);
        fault("set power 1 when (((((3)))));", TOO_MANY, 22);
        power("((((3)))) + ((((3))))", 6);
        power("(1 + (1 + (1 + (1 + 1)))) - ((((1 and 1) and 1) and 1) and 1)", 4);
        power("4 when ((((1)))) and ((((1))))", 4);
        // Each of the five levels with all that may wait there.
        power("1 and 0 < 1 + (1 and 0 < 1 + (1 and 0 < 1 + (1 and 0 < 1 + (1 and 0 < 1 + 2))))", 1);
        power("1 and 1 = 1 + (1 and 1 = 1 + (1 and 1 = 1 + (1 and 1 = 1 + (1 and 1 = 1 + 0))))", 1);
        VoiceShaper x = Check.sentence("1 0 0");
        Check.due("one behind the other", Check.rules(x, "set power 0" + "+((((0))))".repeat(98) + "+8;"), 0);
        Check.row("as many as there is room for", x, 2, 8);
    }

    private static void leftOutAndAnyMore() {
        Check.quote("(What stands in [ ] may be left out, { } are for \"any more\".)");
        right("set power 1;", 1);
        right("set power 1 when 1;", 1);
        right("set power 1 < 2;", 1);
        right("set power 1 + 2;", 1);
        right("set power 1 + 2 - 3 + 4;", 1);
        right("set power 1 and 2;", 1);
        right("set power 1 and 2 and 3 and 4;", 1);
        right("set power" + " 1 and".repeat(160) + " 1;", 1);
        right("set power" + " 1 -".repeat(240) + " 1;", 1);
        fault("set power [ 1 ];", CANNOT_STAND, 10);
        fault("set power { 1 };", CANNOT_STAND, 10);
    }

    private static void placesOfFaults() {
        Check.quote("FAULTS, kind + 16 * the place (from 0) of a token, the end being one at the text's length:");
        fault("#", CANNOT_STAND, 0);
        fault(" #", CANNOT_STAND, 1);
        fault("\n\n#", CANNOT_STAND, 2);
        fault("set", CANNOT_STAND, 3);
        fault("set   ", CANNOT_STAND, 6);
        fault("set \n", CANNOT_STAND, 5);
        fault(" ".repeat(999) + "x", CANNOT_STAND, 999);
        fault("set power 1" + " ".repeat(989), CANNOT_STAND, 1000);
        fault("set power 1" + "+1".repeat(500), CANNOT_STAND, 1000);
        fault("set power 1;" + " ".repeat(985) + "set", CANNOT_STAND, 1000);
        fault("set power 1;".repeat(24) + " ".repeat(700) + "set", TOO_MANY, 988);
    }

    private static void theFirstTokenThatIsWrong() {
        Check.quote("of the first token from the left that is wrong the least:");
        fault("set tune # 12345", CANNOT_STAND, 4);
        fault("set power (((((1 #", TOO_MANY, 15);
        fault("set power # (((((1", CANNOT_STAND, 10);
        fault("set power (((((1)))));".repeat(2), TOO_MANY, 15);
        fault("set power 1;".repeat(23) + "set power; set power 1;", CANNOT_STAND, 276 + 9);
        fault("set power 1;".repeat(24) + "set power; #", TOO_MANY, 288);
        // Where 1 and 5 would both be told: the least.
        fault("set power ((((()))));", CANNOT_STAND, 15);
        fault("set power (((((and", CANNOT_STAND, 15);
        fault("set power (((((", CANNOT_STAND, 15);
        fault("set power (((((12345", CANNOT_STAND, 15);
        fault("set power (((((unknown", CANNOT_STAND, 15);
        fault("set power 1;".repeat(24) + "put power 1;", CANNOT_STAND, 288);
        fault("set power 1;".repeat(24) + "power", CANNOT_STAND, 288);
        fault("set power 1;".repeat(24) + ";", CANNOT_STAND, 288);
        fault("set power 1;".repeat(24) + "#", CANNOT_STAND, 288);
        fault("set power 1;".repeat(24) + "setsetset", CANNOT_STAND, 288);
    }

    private static void cannotStandThere() {
        Check.quote("1 it is none, or can't stand there;");
        fault("set power 1 $;", CANNOT_STAND, 12);
        fault("set power 1 place;", CANNOT_STAND, 12);
        fault("set power 1 set;", CANNOT_STAND, 12);
        fault("set power 1 (", CANNOT_STAND, 12);
        fault("set power 1 )", CANNOT_STAND, 12);
        fault("set power 1 ", CANNOT_STAND, 12);
        fault("set power 1; 1", CANNOT_STAND, 13);
        fault("set power 1; )", CANNOT_STAND, 13);
        fault("set power 1; when 1;", CANNOT_STAND, 13);
    }

    private static void tooMany() {
        Check.quote("5 a 25th line (at its first token), a PART within 5 others.");
        fault("set power 1;".repeat(24) + " set", TOO_MANY, 289);
        fault("set power 1;".repeat(24) + "\n\nadd", TOO_MANY, 290);
        fault("set power 1;".repeat(24) + "set tune 1;", TOO_MANY, 288);
        for (String part : PARTS) {
            fault("set power (((((" + part + ")))));", TOO_MANY, 15);
            right("set power ((((" + part + "))));", 1);
        }
        fault("set power ((((( 1", TOO_MANY, 16);
        fault("set power (((((( 1", TOO_MANY, 15);
        fault("set power (((((((((((((((((((((((((((((((((((((((( 1", TOO_MANY, 15);
        fault("set power " + "(".repeat(990), TOO_MANY, 15);
        fault("set power ((((1 + (1))));", TOO_MANY, 19);
        fault("set power ((((1)))) + (((((1", TOO_MANY, 27);
        fault("set power 1 < (((((1", TOO_MANY, 19);
        fault("set power (1 and (1 < (1 + (1 - (1 + 1)))));", TOO_MANY, 33);
    }

    private static final String MANNER = "A MANNER in hand, its span and slope: true; false: no such MANNER, "
            + "other numbers (low above high).";

    private static void mannerAndItsEdges() {
        Check.quote(MANNER);
        VoiceShaper x = Check.sentence("2 0 0");
        Check.rules(x, "set height 99 when place; set height 0 when place = 0;");
        int[][] rights = {{0, 0, 99, 99, 0, 99}, {0, 0, 0, 1, 0, 0}, {0, 99, 99, 1, 99, 99}, {0, 10, 60, 1, 10, 11},
            {0, 0, 99, 1, 0, 1}, {3, 0, 0, 99, 0, 0}, {3, 99, 99, 99, 99, 99}};
        for (int[] r : rights) {
            Check.yes("manner(" + r[0] + ", " + r[1] + ", " + r[2] + ", " + r[3] + ")", x.manner(r[0], r[1], r[2], r[3]));
            Check.due("in hand", x.count(4), r[0]);
            Check.row("heights", x, 1, r[4], r[5]);
        }
        Check.yes("the first again", x.manner(0, 0, 99, 50));
        Check.row("has its rules still", x, 1, 0, 50);
    }

    private static void mannerIsRefused() {
        Check.quote(MANNER);
        int[][] others = {{-1, 0, 99, 9}, {4, 0, 99, 9}, {LEAST, 0, 99, 9}, {MOST, 0, 99, 9}, {2, -1, 99, 9}, {2, 0, 100, 9},
            {2, 51, 50, 9}, {2, 99, 0, 9}, {2, 100, 100, 9}, {2, -1, -1, 9}, {2, 0, 99, 0}, {2, 0, 99, 100}, {2, 0, 99, -1},
            {2, LEAST, 99, 9}, {2, 0, MOST, 9}, {2, 0, 99, LEAST}, {2, 0, 99, MOST}, {2, MOST, LEAST, 9}, {1, 51, 50, 9},
            {1, 0, 99, 0}, {1, 0, 99, 100}, {1, -1, 99, 9}, {1, 0, 100, 9}};
        for (int[] o : others) {
            Refusal.of("manner(" + o[0] + ", " + o[1] + ", " + o[2] + ", " + o[3] + ")", 0,
                    x -> x.manner(o[0], o[1], o[2], o[3]) ? 1 : 0);
        }
    }

    private static final String FEED = "Up to 24 signs come behind the TAPE: the bytes of a, b, c, of each the highest first; "
            + "others than 10 and 32 .. 126, and what is beyond 1,000, are left out: how many there are.";

    private static void feedAndItsSigns() {
        Check.quote(FEED);
        VoiceShaper x = Check.sentence("1 0 0");
        Check.due("24 signs", x.feed(Check.pack("set powe", 0), Check.pack("r 7 when", 0), Check.pack(" stress;", 0)), 24);
        Check.due("in their order", x.rules(), 0);
        Check.row("it stands", x, 2, 7);
        Check.due("none", x.feed(0L, 0L, 0L), 0);
        Check.due("none, too", x.feed(-1L, Long.MIN_VALUE, 0x7F7F7F7F1F1F0909L), 0);
        Check.due("one", x.feed(0L, 0L, 10L), 1);
        Check.due("how many there are", x.feed(0x7E00000000000020L, 0L, 0L), 3);
        Check.due("how many there are still", x.feed(0L, 0L, 0L), 3);
        Check.due("126 is at 1", x.rules(), CANNOT_STAND + 16);
        // s, e, t and so on, with what is left out between them.
        x.feed(0x73FF650A74202020L, 0, 0);
        Check.due("10 is not left out", x.rules(), CANNOT_STAND);
        x.feed(0x73FF650074202020L, 0x706F00776572FF39L, 0x3B00000000000000L);
        Check.due("what is left out leaves no gap", x.count(6), 13);
        Check.due("and is no sign", x.rules(), 0);
        Check.row("it stands, too", x, 2, 9);
    }

    private static void feedBeyond1000() {
        Check.quote(FEED);
        VoiceShaper x = Check.sentence("1 0 0");
        Check.feed(x, " ".repeat(984));
        Check.due("16 of 24", x.feed(Check.pack("set powe", 0), Check.pack("r 4 ;   ", 0), Check.pack("fault   ", 0)), 1000);
        Refusal.of("a full tape", 1000, () -> fullTape("set power 4;"), y -> y.feed(-1L >>> 1, Check.pack("abcdefgh", 0), 32));
        Check.due("the first ones are kept", x.rules(), 0);
        Check.row("they stand", x, 2, 4);
        // One place is left: of the signs that count the first one takes it.
        VoiceShaper last = new VoiceShaper();
        Check.feed(last, " ".repeat(984));
        Check.feed(last, " ".repeat(15));
        Check.due("999", last.count(6), 999);
        Check.due("1000", last.feed(0xFF00202323230000L, 0, 0), 1000);
        Check.due("the blank took it", last.rules(), 0);
    }

    private static VoiceShaper fullTape(String text) {
        VoiceShaper x = Check.sentence("1 0 0");
        Check.feed(x, text);
        Check.feed(x, " ".repeat(1000));
        return x;
    }

    private static final String RULES = "The TAPE is read as the RULES of the MANNER in hand, in place of those it had: "
            + "0, or the FAULT.";

    private static void rulesInPlaceOfThoseItHad() {
        Check.quote(RULES);
        VoiceShaper x = Check.sentence("1 0 0");
        Check.due("two lines", Check.rules(x, "set power 3; set length 7;"), 0);
        Check.due("two", x.count(5), 2);
        Check.due("one line", Check.rules(x, "add power 1;"), 0);
        Check.due("one", x.count(5), 1);
        Check.row("in place of those it had: power", x, 2, 6);
        Check.row("in place of those it had: length", x, 5, 10);
        x.manner(2, 0, 99, 99);
        Check.due("another manner", x.count(5), 0);
        Check.due("24 lines", Check.rules(x, "set power 2;".repeat(24)), 0);
        x.manner(0, 0, 99, 99);
        Check.row("the first manner has its own", x, 2, 6);
        Check.due("an empty tape", x.rules(), 0);
        Check.due("no line", x.count(5), 0);
        Check.row("no line: power", x, 2, 5);
        x.manner(2, 0, 99, 99);
        Check.due("the other has its own still", x.count(5), 24);
        VoiceShaper empty = new VoiceShaper();
        Check.due("without words", Check.rules(empty, "set power word;"), 0);
        Check.due("a line, too", empty.count(5), 1);
    }

    private static void rulesAreRefused() {
        Check.quote(RULES);
        String[] wrong = {"#", "set power 4; set length", "set power (((((1", "set length 1;".repeat(25)};
        int[] faults = {CANNOT_STAND, CANNOT_STAND + 16 * 23, TOO_MANY + 16 * 15, TOO_MANY + 16 * 312};
        for (int n = 0; n < wrong.length; n++) {
            String text = wrong[n];
            Refusal.of("rules of " + text, faults[n], RuleEdges::busyWithoutTape, x -> Check.rules(x, text));
        }
    }

    private static VoiceShaper busyWithoutTape() {
        VoiceShaper x = Refusal.busy();
        x.rules();
        Check.rules(x, "set height 40 + tune when stress; add power 2 when accent;");
        return x;
    }
}
