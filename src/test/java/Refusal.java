import java.util.function.Supplier;

/** Calls that are refused: their answer, and that all else answers as if they had not been. */
final class Refusal {
    /** One call on an object; a boolean answer counts 1 or 0. */
    interface Call {
        int on(VoiceShaper x);
    }

    private Refusal() {
    }

    static void of(String name, int answer, Call call) {
        of(name, answer, Refusal::busy, call);
    }

    static void of(String name, int answer, Supplier<VoiceShaper> maker, Call call) {
        VoiceShaper x = maker.get();
        Check.due(name, call.on(x), answer);
        Check.same("the state behind " + name, state(x), state(maker.get()));
    }

    /** An object that has something of everything: readings, marks, manners with rules, signs on the tape. */
    static VoiceShaper busy() {
        VoiceShaper x = Check.sentence("2 1 3 n, 1 0 1 c, 3 0 50 n, 1 0 0");
        x.ideal(3);
        x.tune(2);
        x.speed(2, 3);
        Check.rules(x, "set height 30 + place + place; set power 4;");
        // The span is seen at syllables 4 and 5, the slope ahead of the mark on 6.
        x.manner(1, 20, 80, 60);
        Check.rules(x, "set height 40 + tune when stress; add power 2 when accent; add length left + new; "
                + "set height 5 when final and place = 1; set height 95 when final and left = 1;");
        x.hand(1, 0, 33);
        x.hand(2, 1, 90);
        x.hand(3, 2, 0);
        x.reading();
        x.change(0, 2, 0, 4, false, false);
        x.hand(6, 1, 10);
        x.tune(1);
        Check.feed(x, "set power word;");
        return x;
    }

    /** Whatever an object answers; the object is used up by it. */
    static String state(VoiceShaper x) {
        StringBuilder all = new StringBuilder();
        for (int what = 0; what <= 7; what++) {
            all.append(x.count(what)).append(' ');
        }
        look(x, all);
        int inHand = x.count(1);
        int readings = x.count(0);
        for (int r = 0; r < readings; r++) {
            all.append("; reading ").append(r).append(" apart ").append(x.apart(r, inHand)).append(": ");
            x.take(r);
            look(x, all);
        }
        x.take(inHand);
        all.append("; tape: ").append(x.rules()).append(' ');
        for (int m = 0; m <= 3; m++) {
            x.manner(m, 0, 99, 99);
            all.append("; manner ").append(m).append(": ").append(x.count(5)).append(' ');
            rows(x, all, 1, 2);
        }
        return all.toString();
    }

    private static void look(VoiceShaper x, StringBuilder all) {
        all.append(x.count(2)).append(' ').append(x.count(7)).append(" fit ").append(x.fit()).append(" phrases ");
        int phrases = x.phrases();
        for (int k = 0; k < phrases; k++) {
            all.append(x.phrase(k, 1)).append(' ').append(x.phrase(k, 3)).append(' ').append(x.phrase(k, 4)).append(' ');
        }
        rows(x, all, 0, 2);
    }

    private static void rows(VoiceShaper x, StringBuilder all, int least, int most) {
        int syllables = x.count(3);
        for (int what = least; what <= most; what++) {
            all.append("row ");
            for (int i = 0; i < syllables; i++) {
                all.append(Check.shape(x, i, what)).append(' ');
            }
        }
    }
}
