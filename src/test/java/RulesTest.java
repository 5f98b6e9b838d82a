/** Promises 8, 9, 10: manner, feed, rules. */
public final class RulesTest {
    public static void main(String[] args) {
        manners();
        eachMannerHasItsOwn();
        feed();
        tapeIsFull();
        tokens();
        faults();
        within();
        lines();
        faultsKeepTheRules();
        Check.end();
    }

    private static void manners() {
        VoiceShaper x = Check.sentence("1 0 0");
        int[][] others = {{-1, 0, 99, 1}, {4, 0, 99, 1}, {1, -1, 99, 1}, {1, 0, 100, 1}, {1, 51, 50, 1},
            {1, 0, 99, 0}, {1, 0, 99, 100}, {1, 0, 99, -1}, {Integer.MAX_VALUE, 0, 99, 1},
            {Integer.MIN_VALUE, 0, 99, 1}, {1, Integer.MIN_VALUE, 99, 1}, {1, 0, Integer.MAX_VALUE, 1}};
        for (int[] o : others) {
            Check.no("manner(" + o[0] + ", " + o[1] + ", " + o[2] + ", " + o[3] + ")",
                    x.manner(o[0], o[1], o[2], o[3]));
        }
        Check.due("in hand as before", x.count(4), 0);
        Check.rules(x, "set height 999 ;");
        Check.row("span at first", x, 1, 99);
        Check.rules(x, "set height 0 - 999 ;");
        Check.row("span at first", x, 1, 0);
        Check.yes("manner 3", x.manner(3, 99, 99, 99));
        Check.due("in hand", x.count(4), 3);
        Check.row("span of one height", x, 1, 99);
        Check.yes("manner 3", x.manner(3, 0, 0, 1));
        Check.row("span of another height", x, 1, 0);
    }

    private static void eachMannerHasItsOwn() {
        VoiceShaper x = Check.sentence("2 0 0");
        Check.rules(x, "set height 90 when place ;");
        x.manner(1, 0, 99, 10);
        Check.due("no rules", x.count(5), 0);
        Check.row("no rules", x, 1, 50, 50);
        Check.rules(x, "set height 90 when place ; set power 1 ;");
        Check.due("two lines", x.count(5), 2);
        Check.row("a slope, from the first on", x, 1, 50, 60);
        x.manner(0, 0, 99, 99);
        Check.due("one line", x.count(5), 1);
        Check.row("its own rules", x, 1, 50, 90);
        Check.row("no power here", x, 2, 5, 5);
        x.manner(1, 0, 99, 10);
        Check.due("two lines again", x.count(5), 2);
    }

    private static void feed() {
        VoiceShaper x = Check.sentence("1 0 0");
        Check.due("the highest first", x.feed(Check.pack("set powe", 0), Check.pack("r 3 ;", 0), 0), 13);
        Check.due("signs", x.count(6), 13);
        Check.due("it is read", x.rules(), 0);
        Check.row("it stands", x, 2, 3);
        Check.due("it is empty then", x.count(6), 0);
        // 9, 11, 31, 127, 128, 255 and 0 are left out; 10, 32 and 126 are not.
        Check.due("others", x.feed(0x090B1F7F80FF0000L, 0x0A207E0000000000L, -1L), 3);
        Check.due("nothing", x.feed(0L, 0L, 0L), 3);
        Check.due("24 more", x.feed(Check.pack("aaaaaaaa", 0), Check.pack("aaaaaaaa", 0), Check.pack("aaaaaaaa", 0)), 27);
        Check.due("the first none is told", x.rules(), 1 + 16 * 2);
        // What is left out has no place, and joins what is around it.
        x.feed(0x73FF650074202020L, 0x706F00776572FF39L, 0x3B00000000000000L);
        Check.due("left out signs", x.count(6), 13);
        Check.due("left out signs join", x.rules(), 0);
        Check.row("it stands", x, 2, 9);
    }

    private static void tapeIsFull() {
        VoiceShaper x = Check.sentence("1 0 0");
        Check.feed(x, " ".repeat(984));
        Check.due("984", x.count(6), 984);
        Check.due("16 of 24", x.feed(Check.pack("set powe", 0), Check.pack("r 4 ;   ", 0), Check.pack("fault   ", 0)), 1000);
        Check.due("none more", Check.feed(x, "x"), 1000);
        Check.due("it is read", x.rules(), 0);
        Check.row("it stands", x, 2, 4);
        Check.feed(x, " ".repeat(1000));
        Check.due("blanks alone", x.rules(), 0);
        Check.due("no lines", x.count(5), 0);
        Check.feed(x, "set power 1" + "+1".repeat(600));
        Check.due("full", x.count(6), 1000);
        Check.due("cut behind +", x.rules(), 1 + 16 * 1000);
        Check.feed(x, "set power 0" + "+0".repeat(492) + "+7;");
        Check.due("998", x.count(6), 998);
        Check.due("the longest sum", x.rules(), 0);
        Check.row("it is worked out", x, 2, 7);
    }

    private static void tokens() {
        fault("set height1;", 0);
        fault("set height 1when 1;", 0);
        fault("set height 1and 2and(3)<4;", 0);
        fault("\nset\nheight\n1\n;\n", 0);
        fault("setheight 1;", 1);
        fault("set height1 2;", 1 + 16 * 12);
        fault("set height 9999;", 0);
        fault("set height 0000;", 0);
        fault("set height 10000;", 1 + 16 * 11);
        fault("set height 12345678901;", 1 + 16 * 11);
        fault("set height contrast;", 0);
        fault("set height contrastx;", 1 + 16 * 11);
        fault("set height contras;", 1 + 16 * 11);
        fault("set height len;", 1 + 16 * 11);
        fault("set height lengthen;", 1 + 16 * 11);
        fault("set height Place;", 1 + 16 * 11);
        fault("set height p\nlace;", 1 + 16 * 11);
        fault("set height 1 > 2;", 1 + 16 * 13);
        fault("set height 1<=2;", 1 + 16 * 13);
        fault("set height 1#", 1 + 16 * 12);
        fault("~", 1);
    }

    private static void faults() {
        fault("", 0);
        fault("  \n ", 0);
        fault(";", 1);
        fault("set", 1 + 16 * 3);
        fault("set  ", 1 + 16 * 5);
        fault("set height", 1 + 16 * 10);
        fault("set set 1;", 1 + 16 * 4);
        fault("set place 1;", 1 + 16 * 4);
        fault("set 1 1;", 1 + 16 * 4);
        fault("add tune 1;", 1 + 16 * 4);
        fault("set height 1 1;", 1 + 16 * 13);
        fault("set height -1;", 1 + 16 * 11);
        fault("set height 1 -;", 1 + 16 * 14);
        fault("set height 1 - - 2;", 1 + 16 * 15);
        fault("set height 1 < 2 = 3;", 1 + 16 * 17);
        fault("set height 1 = 2 and 3 < 4 and 5;", 0);
        fault("set height (1 < 2) < 3;", 0);
        fault("set height 1 < (2 < 3) + 4 - 5;", 0);
        fault("set height and;", 1 + 16 * 11);
        fault("set height 1 and;", 1 + 16 * 16);
        fault("set height 1);", 1 + 16 * 12);
        fault("set height (1;", 1 + 16 * 13);
        fault("set height (1 when 1);", 1 + 16 * 14);
        fault("set height ();", 1 + 16 * 12);
        fault("set height 1 when 2 when 3;", 1 + 16 * 20);
        fault("set height when 1;", 1 + 16 * 11);
        fault("set height set;", 1 + 16 * 11);
        fault("set height 1 when 1 ; ;", 1 + 16 * 22);
        fault("set height 1; sit height 2;", 1 + 16 * 14);
        fault("set height 1; add", 1 + 16 * 17);
        fault("set length length; add height height; set power power when place + left - stress;", 0);
        fault("set power accent + new + contrast + phrase when final + word + tune = 3;", 0);
    }

    private static void within() {
        fault("set height ((((1))));", 0);
        fault("set height (((((1)))));", 5 + 16 * 16);
        fault("set height (((((place)))));", 5 + 16 * 16);
        fault("set height ((((((1))))));", 5 + 16 * 16);
        fault("set height ((((()))));", 1 + 16 * 16);
        fault("set height (((((", 1 + 16 * 16);
        fault("set height (((((;", 1 + 16 * 16);
        fault("set height (((((and", 1 + 16 * 16);
        fault("set height (((((12345", 1 + 16 * 16);
        fault("set height (((1 + ((1))) + 1) and (1)) when ((((1))));", 5 + 16 * 20);
        fault("set height (((1 + (1)) + 1) and (1)) when ((((1))));", 0);
        fault("set height 1 when (((((1", 5 + 16 * 23);
    }

    private static void lines() {
        String line = "set power 1;";
        fault(line.repeat(24), 0);
        fault(line.repeat(24) + "  ", 0);
        fault(line.repeat(25), 5 + 16 * 288);
        fault(line.repeat(24) + " add", 5 + 16 * 289);
        fault(line.repeat(24) + " put", 1 + 16 * 289);
        fault(line.repeat(24) + ";", 1 + 16 * 288);
        fault(line.repeat(24) + "#", 1 + 16 * 288);
        fault(line.repeat(23) + "set power;" + line, 1 + 16 * 285);
    }

    private static void faultsKeepTheRules() {
        VoiceShaper x = Check.sentence("2 0 0");
        Check.due("right", Check.rules(x, "set power 3; set length 7;"), 0);
        Check.due("wrong in the second line", Check.rules(x, "set power 4; set length;"), 1 + 16 * 23);
        Check.due("the tape is empty then", x.count(6), 0);
        Check.due("the lines are as before", x.count(5), 2);
        Check.row("the power is as before", x, 2, 3, 3);
        Check.due("others in their place", Check.rules(x, "set power 8;"), 0);
        Check.due("one line", x.count(5), 1);
        Check.row("the power is another", x, 2, 8, 8);
        Check.row("the length is as at first", x, 0, 10, 10);
        Check.due("none in their place", x.rules(), 0);
        Check.due("no line", x.count(5), 0);
        Check.row("the power is as at first", x, 2, 5, 5);
    }

    private static void fault(String text, int want) {
        VoiceShaper x = new VoiceShaper();
        Check.due("rules of \"" + text.replace("\n", "\\n") + "\"", Check.rules(x, text), want);
    }
}
