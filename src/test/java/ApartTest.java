/** Promises 18 and 19: apart, count. */
public final class ApartTest {
    public static void main(String[] args) {
        wrongReadings();
        values();
        speedHides();
        ends();
        oneGoesOn();
        mannerInHand();
        counts();
        Check.end();
    }

    private static void wrongReadings() {
        VoiceShaper x = Check.sentence("1 0 0");
        for (int[] o : new int[][] {{0, 1}, {1, 0}, {1, 1}, {-1, 0}, {0, -1}, {4, 0}, {Integer.MAX_VALUE, 0},
            {0, Integer.MIN_VALUE}}) {
            Check.due("apart(" + o[0] + ", " + o[1] + ")", x.apart(o[0], o[1]), -2);
        }
        Check.due("apart(0, 0)", x.apart(0, 0), -1);
    }

    private static void values() {
        VoiceShaper x = Check.sentence("4 0 0");
        x.reading();
        Check.due("alike", x.apart(0, 1), -1);
        for (int what = 0; what < 3; what++) {
            x.hand(3 - what, what, 9);
            Check.due("apart by " + what, x.apart(0, 1), 3 - what);
            Check.due("the other way round", x.apart(1, 0), 3 - what);
        }
        x.take(0);
        Check.due("the one in hand is not asked", x.apart(0, 1), 1);
        Check.due("the shape in hand is its own", x.shape(1, 2), 5);
        Check.due("in hand as before", x.count(1), 0);
        x.take(1);
        Check.due("the shape in hand is its own", x.shape(1, 2), 9);
    }

    private static void speedHides() {
        VoiceShaper x = Check.sentence("4 0 0");
        x.hand(0, 0, 10);
        x.reading();
        x.hand(0, 0, 11);
        x.hand(1, 0, 9);
        Check.due("apart", x.apart(0, 1), 0);
        x.speed(1, 2);
        Check.due("told alike", x.apart(0, 1), -1);
    }

    private static void ends() {
        VoiceShaper x = Check.sentence("3 0 0, 3 0 0, 3 0 0, 3 0 0");
        x.reading();
        Check.due("alike", x.apart(0, 1), -1);
        x.change(1, 3, 0, 99, false, false);
        Check.due("the first phrase ends at 5 there", x.phrase(0, 1), 3);
        Check.due("apart where one ends", x.apart(0, 1), 5);
    }

    private static void oneGoesOn() {
        VoiceShaper x = Check.sentence("5 0 0");
        x.reading();
        x.word(5, 0, 0, false, false);
        Check.due("two phrases", x.phrases(), 2);
        Check.due("the first beyond the shorter one", x.apart(0, 1), 5);
        Check.due("the other way round", x.apart(1, 0), 5);
        VoiceShaper y = new VoiceShaper();
        y.reading();
        Check.due("both without words", y.apart(0, 1), -1);
        y.word(1, 0, 0, false, false);
        Check.due("one without words", y.apart(0, 1), 0);
        y.reading();
        y.word(1, 0, 0, false, false);
        Check.due("one phrase", y.phrases(), 1);
        Check.due("a phrase ends in the shorter one alone", y.apart(1, 2), 0);
        y.ideal(1);
        y.change(0, 1, 0, 0, false, false);
        Check.due("of equal cost the longer one", y.phrases(), 1);
    }

    private static void mannerInHand() {
        VoiceShaper x = Check.sentence("2 0 0");
        Check.rules(x, "set power tune when place;");
        x.reading();
        x.tune(1);
        Check.due("apart by the rules", x.apart(0, 1), 1);
        x.manner(1, 0, 99, 99);
        Check.due("alike in another manner", x.apart(0, 1), -1);
        x.manner(0, 0, 99, 99);
        Check.due("apart again", x.apart(0, 1), 1);
    }

    private static void counts() {
        VoiceShaper x = Check.sentence("2 0 0, 3 0 0");
        x.reading();
        x.reading();
        x.take(1);
        x.word(4, 0, 0, false, false);
        x.hand(0, 0, 1);
        x.hand(0, 1, 0);
        x.hand(0, 2, 0);
        x.hand(8, 1, 5);
        x.manner(2, 0, 9, 9);
        Check.rules(x, "set power 1; set power 2; set power 3;");
        Check.feed(x, "hello");
        int[] want = {3, 1, 3, 9, 2, 3, 5, 4};
        for (int what = 0; what < want.length; what++) {
            Check.due("count(" + what + ")", x.count(what), want[what]);
        }
        for (int what : new int[] {-1, 8, Integer.MAX_VALUE, Integer.MIN_VALUE}) {
            Check.due("count(" + what + ")", x.count(what), -1);
        }
    }
}
