import java.util.Arrays;
import java.util.NoSuchElementException;

/**
 * Shapes how a sentence is spoken: phrases of the least cost, accents, rules told in a text,
 * heights within a span and a slope, marks by hand, speed and pauses.
 */
public final class VoiceShaper {
    public static final int NONE = -1;

    private static final int MOST_READINGS = 4;
    private static final int MOST_WORDS = 16;
    private static final int MOST_IN_WORD = 5;
    private static final int MOST_SYLLABLES = 80;
    private static final int MOST_BOND = 99;
    private static final int MOST_TUNE = 3;
    private static final int MOST_IDEAL = 20;
    private static final int MANNERS = 4;
    private static final int MOST_HEIGHT = 99;
    private static final int MOST_SLOPE = 99;
    private static final int MOST_SPEED = 100;
    private static final int MOST_PAUSE = 1000;
    private static final int MOST_SIGNS = 1000;
    private static final int MOST_LINES = 24;
    private static final int MOST_WITHIN = 5;
    private static final int MOST_LETTERS = 8;
    private static final int MOST_DIGITS = 4;

    // What a RULE may name; the same numbers are the rows of a Shape and, with the rest, the TOKENS.
    private static final int LENGTH = 0;
    private static final int HEIGHT = 1;
    private static final int POWER = 2;
    private static final int PLACE = 3;
    private static final int LEFT = 4;
    private static final int STRESS = 5;
    private static final int ACCENT = 6;
    private static final int NEW = 7;
    private static final int CONTRAST = 8;
    private static final int PHRASE = 9;
    private static final int FINAL = 10;
    private static final int WORD = 11;
    private static final int TUNE = 12;
    private static final int SET = 13;
    private static final int ADD = 14;
    private static final int WHEN = 15;
    private static final int AND = 16;
    private static final int OPEN = 17;
    private static final int CLOSE = 18;
    private static final int LESS = 19;
    private static final int EQUAL = 20;
    private static final int PLUS = 21;
    private static final int MINUS = 22;
    private static final int SEMICOLON = 23;
    private static final int END = 24;
    private static final int NO_TOKEN = 25;
    // A NUMBER n is the TOKEN FIRST_NUMBER + n.
    private static final int FIRST_NUMBER = 26;

    // Row of a Shape that no RULE can name, so it may share SET's number.
    private static final int TOLD = 13;
    private static final int ROWS = 14;
    private static final int VALUES = 3;

    // Each name fills MOST_LETTERS places, so that the n-th one is the TOKEN n.
    private static final String NAMES =
            "length  height  power   place   left    stress  accent  new     contrastphrase  final   word    tune    set     add     when    and     ";
    private static final String SIGNS = "()<=+-;";

    private static final int CANNOT_STAND = 1;
    private static final int TOO_MANY = 5;
    private static final int FAULT_STEP = 16;

    // The least and the most of LENGTH, HEIGHT, POWER: by hand, and by the lines of RULES.
    private static final int[] LEAST_MARK = {1, 0, 0};
    private static final int[] MOST_MARK = {99, 99, 9};
    private static final int[] LEAST_BY_LINE = {1, -999, 0};
    private static final int[] MOST_BY_LINE = {99, 999, 9};
    private static final int[] AT_FIRST = {10, 50, 5};

    private final Reading[] readings = new Reading[MOST_READINGS];
    private int readingCount = 1;
    private int inHand = 0;
    private final Manner[] manners = new Manner[MANNERS];
    private int mannerInHand = 0;
    private int idealSyllables = 6;
    private int speedOver = 1;
    private int speedUnder = 1;
    private final Tape tape = new Tape();
    private final Calculator calculator = new Calculator();
    private final Shape mainShape = new Shape();
    private final Shape otherShape = new Shape();

    public VoiceShaper() {
        for (int i = 0; i < MOST_READINGS; i++) {
            readings[i] = new Reading();
        }
        for (int i = 0; i < MANNERS; i++) {
            manners[i] = new Manner();
        }
    }

    public int word(int syllables, int stress, int bond, boolean isNew, boolean contrast) {
        Reading reading = readings[inHand];
        if (reading.words >= MOST_WORDS || !isWord(syllables, stress, bond)) {
            return NONE;
        }
        reading.words++;
        reading.putWord(reading.words - 1, syllables, stress, bond, isNew, contrast);
        forgetShapes();
        return reading.words;
    }

    public boolean change(int word, int syllables, int stress, int bond, boolean isNew, boolean contrast) {
        Reading reading = readings[inHand];
        if (word < 0 || word >= reading.words || !isWord(syllables, stress, bond)) {
            return false;
        }
        if (reading.syllables[word] != syllables) {
            reading.clearMarks();
        }
        reading.putWord(word, syllables, stress, bond, isNew, contrast);
        forgetShapes();
        return true;
    }

    public int reading() {
        if (readingCount >= MOST_READINGS) {
            return NONE;
        }
        readings[readingCount].becomeLike(readings[inHand]);
        inHand = readingCount;
        readingCount++;
        return inHand;
    }

    public boolean take(int reading) {
        if (!isReading(reading)) {
            return false;
        }
        inHand = reading;
        return true;
    }

    public boolean tune(int t) {
        if (!isWithin(t, 0, MOST_TUNE)) {
            return false;
        }
        readings[inHand].melody = t;
        forgetShapes();
        return true;
    }

    public boolean ideal(int n) {
        if (!isWithin(n, 1, MOST_IDEAL)) {
            return false;
        }
        idealSyllables = n;
        forgetShapes();
        return true;
    }

    public boolean manner(int m, int low, int high, int slope) {
        if (m < 0 || m >= MANNERS || low < 0 || low > high || high > MOST_HEIGHT
                || !isWithin(slope, 1, MOST_SLOPE)) {
            return false;
        }
        mannerInHand = m;
        manners[m].low = low;
        manners[m].high = high;
        manners[m].slope = slope;
        forgetShapes();
        return true;
    }

    public int feed(long a, long b, long c) {
        tape.layBytes(a);
        tape.layBytes(b);
        tape.layBytes(c);
        return tape.size;
    }

    public int rules() {
        // Rows as long as the text are made here: over all calls they are few, as feeding is slow.
        Grammar grammar = new Grammar(tape.size);
        int fault = grammar.readText(tape);
        tape.size = 0;
        if (fault == 0) {
            manners[mannerInHand].lines = grammar.draft;
            forgetShapes();
        }
        return fault;
    }

    public boolean hand(int syllable, int what, int v) {
        Reading reading = readings[inHand];
        if (syllable < 0 || syllable >= reading.allSyllables || what < 0 || what >= VALUES) {
            return false;
        }
        if (v != NONE && !isWithin(v, LEAST_MARK[what], MOST_MARK[what])) {
            return false;
        }
        reading.marks[what][syllable] = v;
        forgetShapes();
        return true;
    }

    public boolean speed(int p, int q) {
        if (!isWithin(p, 1, MOST_SPEED) || !isWithin(q, 1, MOST_SPEED)) {
            return false;
        }
        speedOver = p;
        speedUnder = q;
        forgetShapes();
        return true;
    }

    public int phrases() {
        return shapeInHand().parting.phraseCount;
    }

    public int phrase(int k, int what) {
        Parting parting = shapeInHand().parting;
        if (k < 0 || k >= parting.phraseCount) {
            return NONE;
        }
        switch (what) {
            case 0: return parting.firstWord[k];
            case 1: return parting.wordCount[k];
            case 2: return parting.syllableCount[k];
            case 3: return parting.accentCount[k];
            case 4: return parting.cost[0];
            default: return NONE;
        }
    }

    public int shape(int syllable, int what) throws NoSuchElementException {
        Shape shape = shapeInHand();
        if (syllable < 0 || syllable >= shape.size) {
            throw new NoSuchElementException("no such syllable");
        }
        switch (what) {
            case 0: return shape.rows[TOLD][syllable];
            case 1: return shape.rows[HEIGHT][syllable];
            case 2: return shape.rows[POWER][syllable];
            case 3: return shape.rows[WORD][syllable];
            case 4: return shape.rows[PHRASE][syllable];
            case 5: return shape.rows[LENGTH][syllable];
            default: throw new NoSuchElementException("no such thing of a syllable");
        }
    }

    public int fit() {
        return shapeInHand().isFit ? 1 : 0;
    }

    public int pause(int phrase, int total) {
        Parting parting = shapeInHand().parting;
        if (phrase < 0 || phrase >= parting.phraseCount - 1 || !isWithin(total, 0, MOST_PAUSE)) {
            return NONE;
        }
        return parting.pauseBehind(phrase, total);
    }

    public int apart(int a, int b) {
        if (!isReading(a) || !isReading(b)) {
            return -2;
        }
        prepare(mainShape, a);
        prepare(otherShape, b);
        return mainShape.firstUnlike(otherShape);
    }

    public int count(int what) {
        Reading reading = readings[inHand];
        switch (what) {
            case 0: return readingCount;
            case 1: return inHand;
            case 2: return reading.words;
            case 3: return reading.allSyllables;
            case 4: return mannerInHand;
            case 5: return manners[mannerInHand].lines.lineCount;
            case 6: return tape.size;
            case 7: return reading.markCount();
            default: return NONE;
        }
    }

    private boolean isReading(int number) {
        return number >= 0 && number < readingCount;
    }

    private static boolean isWithin(int n, int least, int most) {
        return n >= least && n <= most;
    }

    private static boolean isWord(int syllables, int stress, int bond) {
        return isWithin(syllables, 1, MOST_IN_WORD) && stress >= 0 && stress < syllables
                && isWithin(bond, 0, MOST_BOND);
    }

    private static int bringWithin(int n, int least, int most) {
        return Math.max(least, Math.min(most, n));
    }

    private Shape shapeInHand() {
        prepare(mainShape, inHand);
        return mainShape;
    }

    // A shape is kept until something changes, as calls often ask for one SYLLABLE after another.
    private void prepare(Shape shape, int reading) {
        if (shape.readingNumber == reading) {
            return;
        }
        shape.readingNumber = reading;
        Manner manner = manners[mannerInHand];
        shape.layOut(readings[reading], idealSyllables);
        shape.applyLines(manner.lines, calculator);
        shape.applyMarks(readings[reading]);
        shape.settleHeights(readings[reading], manner);
        shape.tellLengths(speedOver, speedUnder);
    }

    private void forgetShapes() {
        mainShape.readingNumber = NONE;
        otherShape.readingNumber = NONE;
    }

    /** The WORDS of one READING, its tune and its MARKS by hand. */
    private static final class Reading {
        final int[] syllables = new int[MOST_WORDS];
        final int[] stressed = new int[MOST_WORDS];
        final int[] bonds = new int[MOST_WORDS];
        final boolean[] news = new boolean[MOST_WORDS];
        final boolean[] contrasts = new boolean[MOST_WORDS];
        final int[][] marks = new int[VALUES][MOST_SYLLABLES];
        int words = 0;
        int allSyllables = 0;
        int melody = 0;

        Reading() {
            clearMarks();
        }

        void clearMarks() {
            for (int what = 0; what < VALUES; what++) {
                Arrays.fill(marks[what], NONE);
            }
        }

        int markCount() {
            int many = 0;
            for (int what = 0; what < VALUES; what++) {
                for (int i = 0; i < allSyllables; i++) {
                    many += marks[what][i] == NONE ? 0 : 1;
                }
            }
            return many;
        }

        // A place without a WORD so far has 0 SYLLABLES, so that the sum is right for it, too.
        void putWord(int at, int many, int stress, int bond, boolean isNew, boolean contrast) {
            allSyllables += many - syllables[at];
            syllables[at] = many;
            stressed[at] = stress;
            bonds[at] = bond;
            news[at] = isNew;
            contrasts[at] = contrast;
        }

        void becomeLike(Reading other) {
            for (int at = 0; at < other.words; at++) {
                putWord(at, other.syllables[at], other.stressed[at], other.bonds[at],
                        other.news[at], other.contrasts[at]);
            }
            words = other.words;
            melody = other.melody;
            for (int what = 0; what < VALUES; what++) {
                System.arraycopy(other.marks[what], 0, marks[what], 0, MOST_SYLLABLES);
            }
        }
    }

    /** How the WORDS of a READING are parted into PHRASES, and which are ACCENTED. */
    private static final class Parting {
        final int[] firstWord = new int[MOST_WORDS];
        final int[] wordCount = new int[MOST_WORDS];
        final int[] syllableCount = new int[MOST_WORDS];
        final int[] accentCount = new int[MOST_WORDS];
        final boolean[] accented = new boolean[MOST_WORDS];
        // Of the WORDS from each one on: the least cost, and how many are in the first PHRASE then.
        final int[] cost = new int[MOST_WORDS + 1];
        final int[] taken = new int[MOST_WORDS];
        int phraseCount = 0;

        void partWords(Reading reading, int ideal) {
            cost[reading.words] = 0;
            for (int from = reading.words - 1; from >= 0; from--) {
                weighFrom(reading, ideal, from);
            }
            phraseCount = 0;
            int end = 0;
            for (int at = 0; at < reading.words; at++) {
                if (at == end) {
                    end = at + taken[at];
                    addPhrase(reading, at, end);
                }
            }
        }

        // Of equal costs the later end wins: the first PHRASE shall have the most WORDS.
        private void weighFrom(Reading reading, int ideal, int from) {
            int sum = 0;
            for (int to = from; to < reading.words; to++) {
                sum += reading.syllables[to];
                int off = sum - ideal;
                int endCost = to + 1 < reading.words ? 1 + reading.bonds[to] : 0;
                int whole = off * off + endCost + cost[to + 1];
                if (to == from || whole <= cost[from]) {
                    cost[from] = whole;
                    taken[from] = to + 1 - from;
                }
            }
        }

        private void addPhrase(Reading reading, int from, int end) {
            int sum = 0;
            for (int at = from; at < end; at++) {
                sum += reading.syllables[at];
            }
            firstWord[phraseCount] = from;
            wordCount[phraseCount] = end - from;
            syllableCount[phraseCount] = sum;
            accentCount[phraseCount] = accentWords(reading, from, end);
            phraseCount++;
        }

        private int accentWords(Reading reading, int from, int end) {
            int contrasted = 0;
            int only = NONE;
            for (int at = from; at < end; at++) {
                accented[at] = reading.contrasts[at];
                contrasted += reading.contrasts[at] ? 1 : 0;
                only = reading.news[at] ? at : only;
            }
            if (contrasted > 0) {
                return contrasted;
            }
            accented[only == NONE ? end - 1 : only] = true;
            return 1;
        }

        int pauseBehind(int phrase, int total) {
            int all = 0;
            for (int k = 0; k < phraseCount - 1; k++) {
                all += syllableCount[k];
            }
            if (all <= 0) {
                return 0;
            }
            int left = total;
            int served = 0;
            int rest = total * syllableCount[phrase] % all;
            for (int k = 0; k < phraseCount - 1; k++) {
                left -= total * syllableCount[k] / all;
                int otherRest = total * syllableCount[k] % all;
                served += otherRest > rest || otherRest == rest && k < phrase ? 1 : 0;
            }
            return total * syllableCount[phrase] / all + (served < left ? 1 : 0);
        }
    }

    /** A row for each thing that can be told of the SYLLABLES of one READING. */
    private static final class Shape {
        final Parting parting = new Parting();
        final int[][] rows = new int[ROWS][MOST_SYLLABLES];
        int readingNumber = NONE;
        int size = 0;
        boolean isFit = true;

        void layOut(Reading reading, int ideal) {
            parting.partWords(reading, ideal);
            size = 0;
            for (int k = 0; k < parting.phraseCount; k++) {
                int end = parting.firstWord[k] + parting.wordCount[k];
                int start = size;
                for (int at = parting.firstWord[k]; at < end; at++) {
                    layWord(reading, at, k, start);
                }
            }
            for (int what = 0; what < VALUES; what++) {
                Arrays.fill(rows[what], AT_FIRST[what]);
            }
            Arrays.fill(rows[TUNE], reading.melody);
        }

        private void layWord(Reading reading, int at, int phrase, int start) {
            for (int s = 0; s < reading.syllables[at]; s++) {
                boolean stressed = s == reading.stressed[at];
                rows[PLACE][size] = size - start;
                rows[LEFT][size] = parting.syllableCount[phrase] - 1 - (size - start);
                rows[STRESS][size] = stressed ? 1 : 0;
                rows[ACCENT][size] = stressed && parting.accented[at] ? 1 : 0;
                rows[NEW][size] = reading.news[at] ? 1 : 0;
                rows[CONTRAST][size] = reading.contrasts[at] ? 1 : 0;
                rows[PHRASE][size] = phrase;
                rows[FINAL][size] = phrase == parting.phraseCount - 1 ? 1 : 0;
                rows[WORD][size] = at;
                size++;
            }
        }

        void applyLines(Rules rules, Calculator calculator) {
            for (int n = 0; n < rules.lineCount; n++) {
                for (int i = 0; i < size; i++) {
                    applyLine(rules, n, calculator, i);
                }
            }
        }

        private void applyLine(Rules rules, int n, Calculator calculator, int i) {
            int what = rules.values[n];
            boolean hasTest = rules.tests[n] < rules.ends[n];
            if (hasTest && calculator.workOut(rules.code, rules.tests[n], rules.ends[n], rows, i) == 0) {
                return;
            }
            int result = calculator.workOut(rules.code, rules.starts[n], rules.tests[n], rows, i);
            int whole = rules.adds[n] ? rows[what][i] + result : result;
            rows[what][i] = bringWithin(whole, LEAST_BY_LINE[what], MOST_BY_LINE[what]);
        }

        void applyMarks(Reading reading) {
            for (int what = 0; what < VALUES; what++) {
                for (int i = 0; i < size; i++) {
                    if (reading.marks[what][i] != NONE) {
                        rows[what][i] = reading.marks[what][i];
                    }
                }
            }
        }

        void settleHeights(Reading reading, Manner manner) {
            int[] heights = rows[HEIGHT];
            int[] marks = reading.marks[HEIGHT];
            for (int i = 0; i < size; i++) {
                if (marks[i] == NONE) {
                    heights[i] = bringWithin(heights[i], manner.low, manner.high);
                }
            }
            for (int i = 1; i < size; i++) {
                if (marks[i] == NONE) {
                    heights[i] = bringNear(heights[i], heights[i - 1], manner.slope);
                }
            }
            for (int i = size - 2; i >= 0; i--) {
                if (marks[i] == NONE) {
                    heights[i] = bringNear(heights[i], heights[i + 1], manner.slope);
                }
            }
            isFit = true;
            for (int i = 1; i < size; i++) {
                isFit = isFit && Math.abs(heights[i] - heights[i - 1]) <= manner.slope;
            }
        }

        private static int bringNear(int height, int neighbour, int slope) {
            return bringWithin(height, neighbour - slope, neighbour + slope);
        }

        void tellLengths(int over, int under) {
            if (under <= 0) {
                return;
            }
            int sum = 0;
            int toldAhead = 0;
            for (int i = 0; i < size; i++) {
                sum += rows[LENGTH][i];
                int toldSoFar = sum * over / under;
                rows[TOLD][i] = toldSoFar - toldAhead;
                toldAhead = toldSoFar;
            }
        }

        int firstUnlike(Shape other) {
            int common = Math.min(size, other.size);
            for (int i = 0; i < common; i++) {
                if (!isAlikeAt(other, i)) {
                    return i;
                }
            }
            return size == other.size ? NONE : common;
        }

        private boolean isAlikeAt(Shape other, int i) {
            return rows[TOLD][i] == other.rows[TOLD][i]
                    && rows[HEIGHT][i] == other.rows[HEIGHT][i]
                    && rows[POWER][i] == other.rows[POWER][i]
                    && (rows[LEFT][i] == 0) == (other.rows[LEFT][i] == 0);
        }
    }

    /** RULES, a span of heights and a slope. */
    private static final class Manner {
        Rules lines = new Rules(0);
        int low = 0;
        int high = MOST_HEIGHT;
        int slope = MOST_SLOPE;
    }

    /**
     * Lines of RULES. The code has operands ahead of what joins them: a NUMBER as it is,
     * all else as -1 - TOKEN. Line n has its first E at starts .. tests, its second at tests .. ends.
     */
    private static final class Rules {
        final boolean[] adds = new boolean[MOST_LINES];
        final int[] values = new int[MOST_LINES];
        final int[] starts = new int[MOST_LINES];
        final int[] tests = new int[MOST_LINES];
        final int[] ends = new int[MOST_LINES];
        final int[] code;
        int lineCount = 0;
        int codeSize = 0;

        Rules(int mostCode) {
            code = new int[Math.max(0, mostCode)];
        }

        void addNumber(int number) {
            if (codeSize < code.length) {
                code[codeSize] = number;
                codeSize++;
            }
        }

        void addSign(int token) {
            if (codeSize < code.length) {
                code[codeSize] = -1 - token;
                codeSize++;
            }
        }
    }

    /** Works out the code of an E for one SYLLABLE. */
    private static final class Calculator {
        // At most three sides wait at each of the MOST_WITHIN levels, and one more is at work.
        private final int[] waiting = new int[3 * MOST_WITHIN + 1];
        private int depth = 0;

        int workOut(int[] code, int from, int end, int[][] rows, int syllable) {
            depth = 0;
            for (int at = from; at < end; at++) {
                if (code[at] >= 0) {
                    push(code[at]);
                } else if (-1 - code[at] <= TUNE) {
                    push(rows[-1 - code[at]][syllable]);
                } else {
                    int right = pop();
                    int left = pop();
                    push(join(-1 - code[at], left, right));
                }
            }
            return pop();
        }

        private static int join(int sign, int left, int right) {
            switch (sign) {
                case PLUS: return left + right;
                case MINUS: return left - right;
                case LESS: return left < right ? 1 : 0;
                case EQUAL: return left == right ? 1 : 0;
                default: return left != 0 && right != 0 ? 1 : 0;
            }
        }

        private void push(int n) {
            if (depth < waiting.length) {
                waiting[depth] = n;
                depth++;
            }
        }

        private int pop() {
            if (depth <= 0) {
                return 0;
            }
            depth--;
            return waiting[depth];
        }
    }

    /** The signs that were fed and not read so far. */
    private static final class Tape {
        final byte[] signs = new byte[MOST_SIGNS];
        int size = 0;

        void layBytes(long eight) {
            for (int shift = 56; shift >= 0; shift -= 8) {
                int sign = (int) (eight >>> shift) & 255;
                if ((sign == 10 || isWithin(sign, 32, 126)) && size < MOST_SIGNS) {
                    signs[size] = (byte) sign;
                    size++;
                }
            }
        }
    }

    /** The TOKENS of a text, the end among them, and their places. */
    private static final class Tokens {
        final int[] kinds;
        final int[] places;
        private int many = 0;

        Tokens(int mostSigns) {
            kinds = new int[Math.max(0, mostSigns) + 1];
            places = new int[Math.max(0, mostSigns) + 1];
        }

        void cutText(Tape tape) {
            many = 0;
            int at = 0;
            while (at < tape.size) {
                at = Math.max(at + 1, cutOne(tape, at));
            }
            addToken(END, tape.size);
        }

        private int cutOne(Tape tape, int at) {
            int sign = tape.signs[at];
            if (isLetter(sign)) {
                int end = endOfRun(tape, at, 'a', 'z');
                addToken(nameAt(tape, at, end), at);
                return end;
            }
            if (isWithin(sign, '0', '9')) {
                int end = endOfRun(tape, at, '0', '9');
                addToken(numberAt(tape, at, end), at);
                return end;
            }
            if (sign != 10 && sign != 32) {
                int which = SIGNS.indexOf((char) sign);
                addToken(which < 0 ? NO_TOKEN : OPEN + which, at);
            }
            return at + 1;
        }

        private static boolean isLetter(int sign) {
            return isWithin(sign, 'a', 'z');
        }

        private static int endOfRun(Tape tape, int at, int least, int most) {
            for (int end = at; end < tape.size; end++) {
                if (!isWithin(tape.signs[end], least, most)) {
                    return end;
                }
            }
            return tape.size;
        }

        // A WORD that is none of the NAMES can stand nowhere: it is taken like no token at all.
        private static int nameAt(Tape tape, int at, int end) {
            if (end - at <= MOST_LETTERS) {
                for (int n = 0; n < NAMES.length() / MOST_LETTERS; n++) {
                    if (isName(n, tape, at, end)) {
                        return n;
                    }
                }
            }
            return NO_TOKEN;
        }

        private static boolean isName(int n, Tape tape, int at, int end) {
            for (int i = 0; i < MOST_LETTERS; i++) {
                int sign = at + i < end ? tape.signs[at + i] : ' ';
                if (NAMES.charAt(n * MOST_LETTERS + i) != sign) {
                    return false;
                }
            }
            return true;
        }

        private static int numberAt(Tape tape, int at, int end) {
            if (end - at > MOST_DIGITS) {
                return NO_TOKEN;
            }
            int number = 0;
            for (int i = at; i < end; i++) {
                number = number * 10 + tape.signs[i] - '0';
            }
            return FIRST_NUMBER + number;
        }

        private void addToken(int kind, int place) {
            if (many < kinds.length) {
                kinds[many] = kind;
                places[many] = place;
                many++;
            }
        }
    }

    /** Reads a text as lines of RULES; each method stops, telling false, at the first FAULT. */
    private static final class Grammar {
        final Rules draft;
        private final Tokens tokens;
        private int at = 0;
        private int kind = END;
        private int fault = 0;

        Grammar(int mostSigns) {
            draft = new Rules(mostSigns);
            tokens = new Tokens(mostSigns);
        }

        int readText(Tape tape) {
            tokens.cutText(tape);
            kind = tokens.kinds[0];
            boolean isRight = true;
            for (int n = 0; n <= MOST_LINES && isRight && kind != END; n++) {
                isRight = readLine(n);
            }
            return fault;
        }

        // No rule of the grammar goes beyond the end, so it stays.
        private void goOn() {
            if (kind != END && at + 1 < tokens.kinds.length) {
                at++;
                kind = tokens.kinds[at];
            }
        }

        private boolean refuse(int faultKind) {
            fault = faultKind + FAULT_STEP * tokens.places[at];
            return false;
        }

        private boolean readLine(int n) {
            if (kind != SET && kind != ADD) {
                return refuse(CANNOT_STAND);
            }
            if (n >= MOST_LINES) {
                return refuse(TOO_MANY);
            }
            draft.adds[n] = kind == ADD;
            goOn();
            if (!isWithin(kind, LENGTH, POWER)) {
                return refuse(CANNOT_STAND);
            }
            draft.values[n] = kind;
            goOn();
            draft.starts[n] = draft.codeSize;
            boolean isRight = readAll(0);
            draft.tests[n] = draft.codeSize;
            if (isRight && kind == WHEN) {
                goOn();
                isRight = readAll(0);
            }
            draft.ends[n] = draft.codeSize;
            if (!isRight) {
                return false;
            }
            if (kind != SEMICOLON) {
                return refuse(CANNOT_STAND);
            }
            goOn();
            draft.lineCount = n + 1;
            return true;
        }

        // An E; within: how many PARTS it is within.
        private boolean readAll(int within) {
            boolean isRight = readTest(within);
            for (int n = 0; n < MOST_SIGNS && isRight && kind == AND; n++) {
                goOn();
                isRight = readTest(within);
                draft.addSign(AND);
            }
            return isRight;
        }

        private boolean readTest(int within) {
            boolean isRight = readSum(within);
            if (isRight && (kind == LESS || kind == EQUAL)) {
                int sign = kind;
                goOn();
                isRight = readSum(within);
                draft.addSign(sign);
            }
            return isRight;
        }

        private boolean readSum(int within) {
            boolean isRight = readPart(within);
            for (int n = 0; n < MOST_SIGNS && isRight && (kind == PLUS || kind == MINUS); n++) {
                int sign = kind;
                goOn();
                isRight = readPart(within);
                draft.addSign(sign);
            }
            return isRight;
        }

        private boolean readPart(int within) {
            boolean isNumber = kind >= FIRST_NUMBER;
            boolean isNamed = kind <= TUNE;
            if (!isNumber && !isNamed && kind != OPEN) {
                return refuse(CANNOT_STAND);
            }
            if (within >= MOST_WITHIN) {
                return refuse(TOO_MANY);
            }
            if (isNumber) {
                draft.addNumber(kind - FIRST_NUMBER);
            } else if (isNamed) {
                draft.addSign(kind);
            } else {
                goOn();
                if (!readAll(within + 1)) {
                    return false;
                }
                if (kind != CLOSE) {
                    return refuse(CANNOT_STAND);
                }
            }
            goOn();
            return true;
        }
    }
}
