import java.util.Arrays;
import java.util.NoSuchElementException;

/**
 * Pulses that part: codes and filters told as texts, rests between pulses, cells with clutter, beams.
 * The words in capitals are those of the document.
 */
public final class PulseParts {
    public static final int NONE = -1;
    public static final int HIDDEN = -1000000;

    private static final int NO_SORT = -2;
    private static final int CODE = 0;
    private static final int LAW = 1;
    private static final int RESTS = 2;

    private static final int BLIND = 0;
    private static final int NEED = 1;
    private static final int GUARD = 2;
    private static final int SIDE = 3;
    private static final int ORDER = 4;
    private static final int FACTOR = 5;
    private static final int[] LEAST_SETTINGS = {0, 1, 0, 1, 1, 0};
    private static final int[] GREATEST_SETTINGS = {9, 8, 3, 8, 16, 99};

    private static final int FARTHEST = 999;
    private static final long MILLION = 1000000L;

    private final Tape tape;
    private final Codes codes;
    private final LawReader lawReader;
    private final Laws laws;
    private final Echoes echoes;
    private final Bests bests;
    private final Rests sets;
    private final Cells cells;
    private final Finder finder;
    private final Shares shares;
    private final Beams beams;
    private final int[] settings;

    public PulseParts() {
        settings = new int[] {1, 1, 1, 3, 3, 20};
        tape = new Tape();
        codes = new Codes();
        lawReader = new LawReader(tape);
        laws = new Laws();
        echoes = new Echoes(codes, laws);
        bests = new Bests(codes, echoes);
        sets = new Rests(settings);
        cells = new Cells();
        finder = new Finder(cells, settings);
        shares = new Shares();
        beams = new Beams();
    }

    public int feed(int a, int b, int c, int d, int e) {
        int more = Tape.signsOf(a) + Tape.signsOf(b) + Tape.signsOf(c) + Tape.signsOf(d) + Tape.signsOf(e);
        if (tape.size + more > Tape.MOST) {
            return NONE;
        }
        tape.put(a);
        tape.put(b);
        tape.put(c);
        tape.put(d);
        tape.put(e);
        return tape.size;
    }

    public boolean end(int n) {
        return tape.cutTo(n);
    }

    public int fault(int sort) {
        return isSort(sort) ? faultOf(sort) : NO_SORT;
    }

    public int text(int sort) {
        if (!isSort(sort) || faultOf(sort) != NONE) {
            return NONE;
        }
        int number = keep(sort);
        if (number != NONE) {
            tape.cutTo(0);
        }
        return number;
    }

    private static boolean isSort(int sort) {
        return within(sort, CODE, RESTS);
    }

    private int faultOf(int sort) {
        if (sort == CODE) {
            return codes.readFrom(tape);
        }
        return sort == LAW ? lawReader.readLaw() : sets.readFrom(tape);
    }

    private int keep(int sort) {
        if (sort == LAW) {
            return laws.keep(lawReader);
        }
        if (sort == RESTS) {
            return sets.keep();
        }
        int number = codes.keep();
        if (number != NONE) {
            echoes.learn(number);
        }
        return number;
    }

    public int sign(int code, int k) throws NoSuchElementException {
        if (!codes.has(code) || !within(k, NONE, codes.lengthOf(code) - 1)) {
            throw new NoSuchElementException();
        }
        return k == NONE ? codes.lengthOf(code) : codes.turn(code, k);
    }

    public int rest(int rests, int i) {
        if (!sets.has(rests) || i < NONE) {
            return NONE;
        }
        return i == NONE ? sets.lengthOf(rests) : sets.number(rests, i);
    }

    public int weight(int code, int law, int k) {
        if (!codes.has(code) || !laws.hasOrNone(law) || !within(k, 0, codes.lengthOf(code) - 1)) {
            return HIDDEN;
        }
        return laws.weightOf(law, k, codes.lengthOf(code), codes.turn(code, k));
    }

    public int comes(int code, int other, int law, int way, int speed, int what) {
        if (!codes.has(code) || !codes.has(other) || !laws.hasOrNone(law)
                || !within(way, 1 - Codes.LONGEST, Codes.LONGEST - 1) || !within(speed, 0, 3) || !within(what, 0, 2)) {
            return HIDDEN;
        }
        echoes.weigh(other, law);
        int power = echoes.powerOf(code, other, way, speed);
        if (what == 2) {
            return power;
        }
        return what == 0 ? echoes.real : echoes.imaginary;
    }

    public int lobes(int code, int law, int what) {
        if (!codes.has(code) || !laws.hasOrNone(law)) {
            return NONE;
        }
        echoes.weigh(code, law);
        switch (what) {
            case 0:
                return echoes.peak(code);
            case 1:
                return echoes.side(code);
            case 2:
                return echoes.sides(code);
            case 3:
                return echoes.leak(code);
            case 4:
                return echoes.loss(code, echoes.peak(code));
            default:
                return NONE;
        }
    }

    public int hinder(int one, int other) {
        return codes.has(one) && codes.has(other) ? echoes.hindrance(one, other) : NONE;
    }

    public int friends(int bound) {
        return codes.many == 0 || bound < 0 ? NONE : echoes.mostFriends(bound);
    }

    public int best(int length, int what) {
        return within(length, 2, Bests.LONGEST_CODE) && within(what, 0, 3) ? bests.codeOf(length, what) : NONE;
    }

    public int filter(int code, int what) {
        if (!codes.has(code) || codes.lengthOf(code) > Bests.LONGEST_FILTER || !within(what, 0, 3)) {
            return NONE;
        }
        return bests.filterOf(code, what);
    }

    public boolean set(int what, int v) {
        if (!within(what, BLIND, FACTOR) || !within(v, LEAST_SETTINGS[what], GREATEST_SETTINGS[what])) {
            return false;
        }
        settings[what] = v;
        return true;
    }

    public int seen(int rests, int r) {
        if (!sets.has(rests) || !within(r, 0, FARTHEST)) {
            return NONE;
        }
        return sets.sees(rests, r) ? 1 : 0;
    }

    public int map(int rests, int most, int what) {
        if (!sets.has(rests) || !within(most, 1, FARTHEST) || !within(what, 0, 1)) {
            return HIDDEN;
        }
        return what == 0 ? sets.seenTo(rests, most) : sets.firstUnseen(rests, most);
    }

    public int choice(int rests, int k, int most, int what) {
        // A CHOICE is a SET of RESTS again, so it has one number at least.
        if (!sets.has(rests) || !within(k, 1, sets.lengthOf(rests)) || !within(most, 1, FARTHEST)
                || !within(what, 0, 1)) {
            return NONE;
        }
        sets.choose(rests, k, most);
        return what == 0 ? sets.chosen : sets.chosenSees;
    }

    public boolean read(int place, int v) {
        return sets.putReading(place, v);
    }

    public int unfold(int rests, int most, int wrong, int by, int i) {
        if (!sets.has(rests) || !within(most, 0, FARTHEST) || !within(wrong, 0, 8) || !within(by, 0, 9) || i < NONE) {
            return NONE;
        }
        return sets.readingsFit(rests) ? sets.unfolded(rests, most, wrong, by, i) : HIDDEN;
    }

    public int ghosts(int rests, int r, int s, int most) {
        if (!sets.has(rests) || !within(r, 0, FARTHEST) || !within(s, 0, FARTHEST) || !within(most, 0, FARTHEST)) {
            return NONE;
        }
        return sets.ghostsOf(rests, r, s, most);
    }

    public int cell(int v) {
        return Cells.isValue(v) && cells.size() < Cells.MOST ? cells.add(v) : NONE;
    }

    public boolean change(int cell, int v) {
        if (!cells.has(cell) || !Cells.isValue(v)) {
            return false;
        }
        cells.put(cell, v);
        return true;
    }

    public boolean draw(int many, int n, long seed) {
        if (!within(many, 1, Cells.MOST) || !within(n, 1, 1000)) {
            return false;
        }
        cells.drawAll(many, n, seed);
        return true;
    }

    public int at(int cell) {
        return cells.has(cell) ? cells.value(cell) : NONE;
    }

    public int undo(boolean again) {
        return again ? cells.goOn() : cells.goBack();
    }

    public int found(int cell) {
        return cells.has(cell) ? finder.findingAt(cell) : NONE;
    }

    public int alarms() {
        return finder.manyFound();
    }

    public long share(int m, int levels, int order, int factor, int what) {
        if (!Shares.areBounds(m, levels, order) || !within(factor, 0, 99) || !within(what, 0, 1)) {
            return NONE;
        }
        shares.learn(m, levels, order);
        return what == 0 ? shares.rowsAbove(factor) : shares.partsAbove(factor);
    }

    public int beam(int time, int due, int worth) {
        if (!within(time, 1, 20) || !within(due, 1, 99) || !within(worth, 0, 99)) {
            return NONE;
        }
        return beams.add(time, due, worth);
    }

    public int plan(int what) {
        if (beams.many == 0 || !within(what, 0, 1)) {
            return NONE;
        }
        int bits = beams.bestSet();
        return what == 0 ? beams.worthOf(bits) : bits;
    }

    public int like(int one, int other) {
        if (!codes.has(one) || !codes.has(other)) {
            return NONE;
        }
        return codes.areLike(one, other) ? 1 : 0;
    }

    public int partners(int one, int other) {
        if (!codes.has(one) || !codes.has(other) || codes.lengthOf(one) != codes.lengthOf(other)) {
            return NONE;
        }
        return echoes.sideTogether(one, other);
    }

    public int cancel(int m, int speed) {
        if (!within(m, 1, 8) || !within(speed, 0, 3)) {
            return NONE;
        }
        // The sum is (1 - i to the speed) to the m, so its POWER is 0, 2 or 4 to the m.
        if (speed == 0) {
            return 0;
        }
        return speed == 2 ? 1 << 2 * m : 1 << m;
    }

    public int stagger(int k, int low, int high, int most, int what) {
        if (!within(k, 1, 3) || !within(low, 2, Rests.GREATEST_STAGGER) || !within(high, 2, Rests.GREATEST_STAGGER)
                || high - low + 1 < k || !within(most, 1, Rests.FARTHEST_STAGGER) || !within(what, 0, 1)) {
            return NONE;
        }
        sets.staggerBest(k, low, high, most);
        return what == 0 ? sets.chosen : sets.chosenSees;
    }

    public int factor(int m, int levels, int order, int parts) {
        if (!Shares.areBounds(m, levels, order) || parts < 0 || parts > MILLION) {
            return NONE;
        }
        shares.learn(m, levels, order);
        return shares.leastFactor(parts);
    }

    public int heaps(int what) {
        return within(what, 0, 2) ? finder.heapsOf(what) : HIDDEN;
    }

    public int image() {
        return cells.keepImage();
    }

    public int back() {
        return cells.putImageBack();
    }

    public int count(int what) {
        switch (what) {
            case 0:
                return codes.many;
            case 1:
                return laws.many;
            case 2:
                return sets.many;
            case 3:
                return tape.size;
            case 4:
                return cells.size();
            case 5:
                return beams.many;
            case 6:
                return cells.undoable;
            case 7:
                return cells.undone;
            default:
                return HIDDEN;
        }
    }

    private static boolean within(int v, int least, int greatest) {
        return v >= least && v <= greatest;
    }

    /** The bytes that are fed, and the place up to which a reader has come in them. */
    private static final class Tape {
        private static final int MOST = 120;
        // No byte of 0 comes to the TAPE, so a 0 can tell its end.
        private static final int OVER = 0;
        private static final int BLANK = ' ';

        private final int[] bytes;
        private int size;
        private int place;

        Tape() {
            bytes = new int[MOST];
        }

        /** How many of a number's four bytes are not 0. */
        static int signsOf(int four) {
            int many = 0;
            for (int shift = 24; shift >= 0; shift -= 8) {
                if ((four >>> shift & 255) != 0) {
                    many++;
                }
            }
            return many;
        }

        void put(int four) {
            for (int shift = 24; shift >= 0; shift -= 8) {
                int one = four >>> shift & 255;
                if (one != 0 && size < MOST) {
                    bytes[size] = one;
                    size++;
                }
            }
        }

        boolean cutTo(int n) {
            if (n < 0 || n > size) {
                return false;
            }
            size = n;
            return true;
        }

        void start() {
            place = 0;
        }

        /** The byte at the very place: a number ends at a blank. */
        int here() {
            return place >= 0 && place < size ? bytes[place] : OVER;
        }

        /** The next byte that is no blank; the place is moved to it. */
        int next() {
            while (place < size && here() == BLANK) {
                place++;
            }
            return here();
        }

        void step() {
            if (place < size) {
                place++;
            }
        }

        boolean take(int sign) {
            if (next() != sign) {
                return false;
            }
            step();
            return true;
        }

        /** The digit at the very place, or NONE. */
        int digit() {
            int sign = here();
            return sign >= '0' && sign <= '9' ? sign - '0' : NONE;
        }
    }

    /** The CODES: each SIGN as how often it is turned by i. */
    private static final class Codes {
        private static final int MOST = 8;
        private static final int LONGEST = 24;

        // One row more than CODES: in the row behind the last CODE a new one is read.
        private final int[] turns;
        private final int[] lengths;
        private int many;

        Codes() {
            turns = new int[(MOST + 1) * LONGEST];
            lengths = new int[MOST + 1];
        }

        boolean has(int code) {
            return code >= 0 && code < many;
        }

        int lengthOf(int code) {
            return code >= 0 && code < lengths.length ? lengths[code] : 0;
        }

        int turn(int code, int k) {
            return has(code) && k >= 0 && k < lengths[code] ? turns[code * LONGEST + k] : 0;
        }

        /** Reads the TAPE as a CODE into the free row: its FAULT. */
        int readFrom(Tape tape) {
            int length = 0;
            tape.start();
            for (int items = 0; items <= LONGEST && tape.next() != Tape.OVER; items++) {
                int turn = turnOf(tape.next());
                if (turn == NONE || length >= LONGEST) {
                    return tape.place;
                }
                tape.step();
                tape.next();
                int times = tape.digit();
                if (times == 0 || length + times > LONGEST) {
                    return tape.place;
                }
                if (times > 0) {
                    tape.step();
                }
                length = putRun(turn, length, Math.max(times, 1));
            }
            if (many < lengths.length) {
                lengths[many] = length;
            }
            return length == 0 ? tape.place : NONE;
        }

        private static int turnOf(int sign) {
            switch (sign) {
                case '+':
                    return 0;
                case 'i':
                    return 1;
                case '-':
                    return 2;
                case 'j':
                    return 3;
                default:
                    return NONE;
            }
        }

        /** Puts so many SIGNS behind those of the free row: how many there are then. */
        private int putRun(int turn, int length, int times) {
            int end = Math.min(length + times, LONGEST);
            for (int k = length; k < end; k++) {
                int i = many * LONGEST + k;
                if (i >= 0 && i < turns.length) {
                    turns[i] = turn;
                }
            }
            return end;
        }

        /** Makes the row that was read a CODE: its number. */
        int keep() {
            if (many >= MOST) {
                return NONE;
            }
            many++;
            return many - 1;
        }

        /**
         * All the turns, done in any order, come to: perhaps turned round, perhaps imaginary parts
         * turned round, then a turn that rises evenly from place to place. So it is enough to try these.
         */
        boolean areLike(int one, int other) {
            if (lengthOf(one) != lengthOf(other)) {
                return false;
            }
            for (int speed = 0; speed < 4; speed++) {
                if (isTurned(one, other, false, 1, speed) || isTurned(one, other, false, -1, speed)
                        || isTurned(one, other, true, 1, speed) || isTurned(one, other, true, -1, speed)) {
                    return true;
                }
            }
            return false;
        }

        private boolean isTurned(int one, int other, boolean round, int hand, int speed) {
            int length = lengthOf(one);
            int first = 0;
            for (int k = 0; k < length; k++) {
                int from = turn(one, round ? length - 1 - k : k);
                int more = turn(other, k) - hand * from - speed * k & 3;
                if (k == 0) {
                    first = more;
                }
                if (more != first) {
                    return false;
                }
            }
            return true;
        }
    }

    /**
     * Reads the TAPE as a LAW and makes steps of it, what is joined ahead of what joins it:
     * a step is a number as it is, or a sign of the LAW below 0.
     */
    private static final class LawReader {
        private static final int DEEPEST = 6;
        private static final int LONGEST_NUMBER = 4;
        // What stands in a row with signs between.
        private static final int CONDITION = 0;
        private static final int TRUTH = 1;
        private static final int SUM = 2;
        private static final int TERM = 3;

        private final Tape tape;
        private final int[] steps;
        private int made;

        LawReader(Tape tape) {
            this.tape = tape;
            steps = new int[Tape.MOST];
        }

        /** The FAULT of the TAPE as a LAW. */
        int readLaw() {
            made = 0;
            tape.start();
            for (int clauses = 0; clauses < Tape.MOST; clauses++) {
                if (!clause()) {
                    return tape.place;
                }
                if (!tape.take(';')) {
                    break;
                }
            }
            return tape.next() == Tape.OVER ? NONE : tape.place;
        }

        private boolean clause() {
            if (!tape.take('y') || !tape.take(':')) {
                return false;
            }
            boolean opens = tape.next() == '!' || tape.next() == '(';
            if (!opens) {
                if (!chain(SUM, 0, false)) {
                    return false;
                }
                if (!compares(tape.next())) {
                    makeSign('y');
                    return true;
                }
            }
            if (!chain(CONDITION, 0, !opens) || !tape.take('?') || !chain(SUM, 0, false)) {
                return false;
            }
            makeSign('?');
            return true;
        }

        /** Parts of one sort with signs between; begun: the first SUM of it has been read. */
        private boolean chain(int sort, int depth, boolean begun) {
            if (!part(sort, depth, begun)) {
                return false;
            }
            for (int parts = 0; parts < Tape.MOST; parts++) {
                int sign = tape.next();
                if (!joins(sort, sign)) {
                    return true;
                }
                tape.step();
                if (!part(sort, depth, false)) {
                    return false;
                }
                makeSign(sign);
            }
            return true;
        }

        private static boolean joins(int sort, int sign) {
            switch (sort) {
                case CONDITION:
                    return sign == '|';
                case TRUTH:
                    return sign == '&';
                case SUM:
                    return sign == '+' || sign == '-';
                default:
                    return sign == '*' || sign == '/';
            }
        }

        private boolean part(int sort, int depth, boolean begun) {
            switch (sort) {
                case CONDITION:
                    return chain(TRUTH, depth, begun);
                case TRUTH:
                    return unit(depth, begun);
                case SUM:
                    return chain(TERM, depth, false);
                default:
                    return atom(depth);
            }
        }

        private boolean unit(int depth, boolean begun) {
            int sign = tape.next();
            if (!begun && sign == '!') {
                if (!goesDeeper(depth) || !unit(depth + 1, false)) {
                    return false;
                }
                makeSign('!');
                return true;
            }
            if (!begun && sign == '(') {
                return goesDeeper(depth) && chain(CONDITION, depth + 1, false) && tape.take(')');
            }
            if (!begun && !chain(SUM, depth, false)) {
                return false;
            }
            int compare = tape.next();
            if (!compares(compare)) {
                return false;
            }
            tape.step();
            if (!chain(SUM, depth, false)) {
                return false;
            }
            makeSign(compare);
            return true;
        }

        private static boolean compares(int sign) {
            return sign == '=' || sign == '<' || sign == '>';
        }

        private boolean atom(int depth) {
            int sign = tape.next();
            if (sign == '[') {
                return goesDeeper(depth) && chain(SUM, depth + 1, false) && tape.take(']');
            }
            if (sign == 'k' || sign == 'n' || sign == 'a' || sign == 'b') {
                tape.step();
                makeSign(sign);
                return true;
            }
            return number();
        }

        /** Goes behind one of ( [ ! if it is not the seventh within one another. */
        private boolean goesDeeper(int depth) {
            if (depth >= DEEPEST) {
                return false;
            }
            tape.step();
            return true;
        }

        private boolean number() {
            int value = 0;
            int digits = 0;
            while (digits < LONGEST_NUMBER && tape.digit() != NONE) {
                value = value * 10 + tape.digit();
                tape.step();
                digits++;
            }
            if (digits == 0) {
                return false;
            }
            make(value);
            return true;
        }

        private void makeSign(int sign) {
            make(-sign);
        }

        private void make(int step) {
            if (made < steps.length) {
                steps[made] = step;
                made++;
            }
        }
    }

    /** The LAWS as the steps that a LawReader made, and what comes of them. */
    private static final class Laws {
        private static final int MOST = 6;
        private static final int BOUND = 1000000;
        private static final int GREATEST_WEIGHT = 9;

        private final int[] steps;
        private final int[] lengths;
        private final int[] stack;
        private int top;
        private int many;

        Laws() {
            steps = new int[MOST * Tape.MOST];
            lengths = new int[MOST];
            stack = new int[Tape.MOST];
        }

        boolean hasOrNone(int law) {
            return law >= NONE && law < many;
        }

        /** Keeps the LAW that was read: its number. */
        int keep(LawReader reader) {
            if (many >= MOST) {
                return NONE;
            }
            int length = Math.min(reader.made, Tape.MOST);
            for (int i = 0; i < length; i++) {
                steps[many * Tape.MOST + i] = reader.steps[i];
            }
            lengths[many] = length;
            many++;
            return many - 1;
        }

        /** WEIGHT by a LAW (or NONE) at place k of n of a SIGN that is turned by i so often. */
        int weightOf(int law, int k, int n, int turn) {
            if (law < 0 || law >= many) {
                return 1;
            }
            int real = turn == 0 ? 1 : turn == 2 ? -1 : 0;
            int imaginary = turn == 1 ? 1 : turn == 3 ? -1 : 0;
            return held(worth(law, k, n, real, imaginary), GREATEST_WEIGHT);
        }

        private int worth(int law, int k, int n, int a, int b) {
            top = 0;
            int length = law >= 0 && law < MOST ? Math.min(lengths[law], Tape.MOST) : 0;
            for (int i = 0; i < length; i++) {
                int step = steps[law * Tape.MOST + i];
                switch (-step) {
                    case 'k':
                        push(k);
                        break;
                    case 'n':
                        push(n);
                        break;
                    case 'a':
                        push(a);
                        break;
                    case 'b':
                        push(b);
                        break;
                    case 'y':
                        return pop();
                    case '?': {
                        int sum = pop();
                        if (pop() != 0) {
                            return sum;
                        }
                        break;
                    }
                    default:
                        doStep(step);
                        break;
                }
            }
            return 0;
        }

        private void doStep(int step) {
            if (step >= 0) {
                push(step);
                return;
            }
            int right = pop();
            if (step == -'!') {
                push(right == 0 ? 1 : 0);
                return;
            }
            push(joined(-step, pop(), right));
        }

        private static int joined(int sign, int left, int right) {
            switch (sign) {
                case '+':
                    return held((long) left + right, BOUND);
                case '-':
                    return held((long) left - right, BOUND);
                case '*':
                    return held((long) left * right, BOUND);
                case '/':
                    return right == 0 ? 0 : held((long) left / right, BOUND);
                case '=':
                    return left == right ? 1 : 0;
                case '<':
                    return left < right ? 1 : 0;
                case '>':
                    return left > right ? 1 : 0;
                case '&':
                    return left & right;
                default:
                    return left | right;
            }
        }

        private static int held(long v, int bound) {
            return (int) Math.max(-bound, Math.min(bound, v));
        }

        private void push(int v) {
            if (top < stack.length) {
                stack[top] = v;
                top++;
            }
        }

        private int pop() {
            if (top <= 0) {
                return 0;
            }
            top--;
            return stack[top];
        }
    }

    /** What comes of CODES against FILTERS. */
    private static final class Echoes {
        private final Codes codes;
        private final Laws laws;
        // The WEIGHTS of the FILTER in use.
        private final int[] weights;
        // CODES never change, so how they HINDER one another is found once.
        private final int[] hindrances;
        private int real;
        private int imaginary;

        Echoes(Codes codes, Laws laws) {
            this.codes = codes;
            this.laws = laws;
            weights = new int[Codes.LONGEST];
            hindrances = new int[Codes.MOST * Codes.MOST];
        }

        /** Takes the FILTER of a CODE by a LAW (or NONE) in use. */
        void weigh(int code, int law) {
            int length = codes.lengthOf(code);
            for (int k = 0; k < length && k < weights.length; k++) {
                weights[k] = laws.weightOf(law, k, length, codes.turn(code, k));
            }
        }

        /** Adds COMES of a CODE and the FILTER in use, which is the other's. */
        private void addMeeting(int one, int other, int way, int speed) {
            if (!codes.has(one) || !codes.has(other)) {
                return;
            }
            int[] turns = codes.turns;
            int from = Math.max(0, way);
            int reach = Math.min(codes.lengthOf(other), weights.length);
            int to = Math.min(Math.min(codes.lengthOf(one), Codes.LONGEST), reach + way);
            for (int k = from; k < to; k++) {
                int weight = weights[k - way];
                int turn = turns[one * Codes.LONGEST + k] + speed * k - turns[other * Codes.LONGEST + k - way] & 3;
                if (turn == 0) {
                    real += weight;
                } else if (turn == 1) {
                    imaginary += weight;
                } else if (turn == 2) {
                    real -= weight;
                } else {
                    imaginary -= weight;
                }
            }
        }

        private int power() {
            return real * real + imaginary * imaginary;
        }

        /** POWER of COMES; its parts stay in real and imaginary. */
        int powerOf(int one, int other, int way, int speed) {
            real = 0;
            imaginary = 0;
            addMeeting(one, other, way, speed);
            return power();
        }

        int peak(int code) {
            return powerOf(code, code, 0, 0);
        }

        int side(int code) {
            int greatest = 0;
            for (int way = 1; way < codes.lengthOf(code); way++) {
                greatest = Math.max(greatest, powerOf(code, code, way, 0));
                greatest = Math.max(greatest, powerOf(code, code, -way, 0));
            }
            return greatest;
        }

        int sides(int code) {
            int sum = 0;
            for (int way = 1; way < codes.lengthOf(code); way++) {
                sum += powerOf(code, code, way, 0) + powerOf(code, code, -way, 0);
            }
            return sum;
        }

        int leak(int code) {
            int greatest = 0;
            for (int speed = 1; speed <= 3; speed++) {
                greatest = Math.max(greatest, greatestOf(code, code, speed));
            }
            return greatest;
        }

        int loss(int code, int peak) {
            int length = codes.lengthOf(code);
            int squares = 0;
            for (int k = 0; k < length && k < weights.length; k++) {
                squares += weights[k] * weights[k];
            }
            long all = (long) length * squares;
            return all == 0 ? 0 : (int) (MILLION * peak / all);
        }

        /** The greatest POWER at any WAY: farther ones, at which no places meet, come to 0. */
        private int greatestOf(int one, int other, int speed) {
            int greatest = 0;
            for (int way = 1 - codes.lengthOf(other); way < codes.lengthOf(one); way++) {
                greatest = Math.max(greatest, powerOf(one, other, way, speed));
            }
            return greatest;
        }

        /** Finds how a new CODE and each one HINDER one another. */
        void learn(int code) {
            if (!codes.has(code)) {
                return;
            }
            for (int other = 0; other <= code; other++) {
                weigh(other, NONE);
                int greatest = greatestOf(code, other, 0);
                hindrances[code * Codes.MOST + other] = greatest;
                hindrances[other * Codes.MOST + code] = greatest;
            }
        }

        int hindrance(int one, int other) {
            return codes.has(one) && codes.has(other) ? hindrances[one * Codes.MOST + other] : 0;
        }

        int mostFriends(int bound) {
            int best = 0;
            for (int bits = 1; bits < 1 << codes.many; bits++) {
                if (Integer.bitCount(bits) > Integer.bitCount(best) && areFriends(bits, bound)) {
                    best = bits;
                }
            }
            return best;
        }

        private boolean areFriends(int bits, int bound) {
            for (int one = 0; one < codes.many; one++) {
                for (int other = 0; other < one; other++) {
                    boolean both = (bits >> one & bits >> other & 1) == 1;
                    if (both && hindrance(one, other) > bound) {
                        return false;
                    }
                }
            }
            return true;
        }

        /** PARTNERS: the SIDE of what comes of both CODES together. */
        int sideTogether(int one, int other) {
            int greatest = 0;
            weigh(one, NONE);
            // With WEIGHTS of 1 a WAY below 0 only turns the imaginary part of that above 0 round.
            for (int way = 1; way < codes.lengthOf(one); way++) {
                greatest = Math.max(greatest, powerTogether(one, other, way));
            }
            return greatest;
        }

        private int powerTogether(int one, int other, int way) {
            powerOf(one, one, way, 0);
            addMeeting(other, other, way, 0);
            return power();
        }
    }

    /** BEST CODES and BEST FILTERS; each is looked for once, since neither can change. */
    private static final class Bests {
        private static final int LONGEST_CODE = 12;
        private static final int LONGEST_FILTER = 6;
        private static final int ANSWERS = 4;
        private static final int FAR = 1000000;

        private final Codes codes;
        private final Echoes echoes;
        // The four answers for each length and each CODE; NONE: not looked for yet.
        private final int[] bestCodes;
        private final int[] bestFilters;
        // The best of what has been tried so far.
        private int number;
        private int side;
        private int sidesOrPeak;
        private int manyOrLoss;

        Bests(Codes codes, Echoes echoes) {
            this.codes = codes;
            this.echoes = echoes;
            bestCodes = new int[(LONGEST_CODE + 1) * ANSWERS];
            bestFilters = new int[Codes.MOST * ANSWERS];
            Arrays.fill(bestCodes, NONE);
            Arrays.fill(bestFilters, NONE);
        }

        int codeOf(int length, int what) {
            if (length < 2 || length > LONGEST_CODE || what < 0 || what >= ANSWERS) {
                return NONE;
            }
            if (bestCodes[length * ANSWERS] == NONE) {
                findCode(length);
                keepIn(bestCodes, length);
            }
            return bestCodes[length * ANSWERS + what];
        }

        int filterOf(int code, int what) {
            if (!codes.has(code) || what < 0 || what >= ANSWERS) {
                return NONE;
            }
            if (bestFilters[code * ANSWERS] == NONE) {
                findFilter(code);
                keepIn(bestFilters, code);
            }
            return bestFilters[code * ANSWERS + what];
        }

        private void keepIn(int[] answers, int row) {
            int first = row * ANSWERS;
            if (first >= 0 && first + 3 < answers.length) {
                answers[first] = number;
                answers[first + 1] = side;
                answers[first + 2] = sidesOrPeak;
                answers[first + 3] = manyOrLoss;
            }
        }

        private void findCode(int length) {
            side = FAR;
            for (int bits = 0; bits < 1 << length; bits++) {
                tryCode(bits, length);
            }
        }

        private void tryCode(int bits, int length) {
            int newSide = 0;
            int newSides = 0;
            for (int way = 1; way < length && newSide <= side; way++) {
                int unlike = Integer.bitCount((bits ^ bits >> way) & (1 << length - way) - 1);
                int sum = length - way - 2 * unlike;
                newSide = Math.max(newSide, sum * sum);
                newSides += 2 * sum * sum;
            }
            if (newSide > side) {
                return;
            }
            if (newSide < side) {
                side = newSide;
                sidesOrPeak = FAR;
                manyOrLoss = 0;
            }
            manyOrLoss++;
            if (newSides < sidesOrPeak) {
                number = bits;
                sidesOrPeak = newSides;
            }
        }

        private void findFilter(int code) {
            int filters = 1;
            for (int k = 0; k < codes.lengthOf(code); k++) {
                filters *= 5;
            }
            number = NONE;
            side = FAR;
            sidesOrPeak = 1;
            manyOrLoss = 0;
            // With all WEIGHTS turned round but the number changes, so the greater half can't be better.
            for (int n = 0; n < filters / 2; n++) {
                tryFilter(code, n);
            }
        }

        private void tryFilter(int code, int n) {
            int peak = tellFilter(code, n);
            if (peak == 0) {
                return;
            }
            int newSide = 0;
            for (int way = 1; way < codes.lengthOf(code) && newSide * sidesOrPeak <= side * peak; way++) {
                newSide = Math.max(newSide, echoes.powerOf(code, code, way, 0));
                newSide = Math.max(newSide, echoes.powerOf(code, code, -way, 0));
            }
            int unlike = newSide * sidesOrPeak - side * peak;
            if (unlike > 0) {
                return;
            }
            int loss = echoes.loss(code, peak);
            if (unlike < 0 || loss > manyOrLoss) {
                number = n;
                side = newSide;
                sidesOrPeak = peak;
                manyOrLoss = loss;
            }
        }

        /** Takes the FILTER of that number in use: its PEAK. */
        private int tellFilter(int code, int n) {
            int left = n;
            int sum = 0;
            for (int k = Math.min(codes.lengthOf(code), LONGEST_FILTER) - 1; k >= 0; k--) {
                int weight = left % 5 - 2;
                left /= 5;
                sum += weight;
                echoes.weights[k] = weight;
            }
            return sum * sum;
        }
    }

    /** SETS of RESTS: what is SEEN by them, what READINGS at them tell. */
    private static final class Rests {
        private static final int MOST = 6;
        private static final int LONGEST = 8;
        private static final int LEAST_REST = 2;
        private static final int GREATEST_READING = 98;
        private static final int GREATEST_STAGGER = 30;
        private static final int FARTHEST_STAGGER = 300;
        // So many longs have a bit for each way of a STAGGER.
        private static final int WORDS = 5;

        private final int[] settings;
        // One row more than SETS: in the row behind the last SET a new one is read.
        private final int[] numbers;
        private final int[] lengths;
        private final int[] readings;
        // How many ways are SEEN by just those RESTS of a SET that the bits tell.
        private final int[] seenByBits;
        // The ways SEEN by each REST, as bits; a REST of 0 sees none.
        private final long[] seenWays;
        private int many;
        private int chosen;
        private int chosenSees;

        Rests(int[] settings) {
            this.settings = settings;
            numbers = new int[(MOST + 1) * LONGEST];
            lengths = new int[MOST + 1];
            readings = new int[LONGEST];
            seenByBits = new int[1 << LONGEST];
            seenWays = new long[(GREATEST_STAGGER + 1) * WORDS];
            Arrays.fill(readings, NONE);
        }

        boolean has(int set) {
            return set >= 0 && set < many;
        }

        int lengthOf(int set) {
            return set >= 0 && set < lengths.length ? lengths[set] : 0;
        }

        int number(int set, int i) {
            return has(set) && i >= 0 && i < lengths[set] ? numbers[set * LONGEST + i] : NONE;
        }

        /** Reads the TAPE as RESTS into the free row: its FAULT. */
        int readFrom(Tape tape) {
            tape.start();
            for (int i = 0; i < LONGEST; i++) {
                tape.next();
                int value = tape.digit();
                if (value == NONE) {
                    return tape.place;
                }
                tape.step();
                if (tape.digit() != NONE) {
                    value = value * 10 + tape.digit();
                    tape.step();
                }
                if (value < LEAST_REST) {
                    return tape.place - 1;
                }
                putLast(i, value);
                if (tape.next() == Tape.OVER) {
                    return NONE;
                }
                if (i == LONGEST - 1 || !tape.take(',')) {
                    return tape.place;
                }
            }
            return tape.place;
        }

        /** Puts a number into the free row, as the last of it. */
        private void putLast(int i, int value) {
            if (i >= 0 && i < LONGEST && many < lengths.length) {
                numbers[many * LONGEST + i] = value;
                lengths[many] = i + 1;
            }
        }

        /** Makes the row that was read a SET: its number. */
        int keep() {
            if (many >= MOST) {
                return NONE;
            }
            many++;
            return many - 1;
        }

        private static int remainder(int way, int rest) {
            return rest > 0 ? way % rest : 0;
        }

        private boolean isSeenBy(int rest, int way) {
            return remainder(way, rest) >= settings[BLIND];
        }

        /** The RESTS of a SET by which a way is SEEN, as bits. */
        private int seeing(int set, int way) {
            int bits = 0;
            for (int i = 0; i < lengthOf(set); i++) {
                if (isSeenBy(number(set, i), way)) {
                    bits |= 1 << i;
                }
            }
            return bits;
        }

        boolean sees(int set, int way) {
            return Integer.bitCount(seeing(set, way)) >= settings[NEED];
        }

        int seenTo(int set, int most) {
            int seen = 0;
            for (int way = 1; way <= most; way++) {
                if (sees(set, way)) {
                    seen++;
                }
            }
            return seen;
        }

        int firstUnseen(int set, int most) {
            for (int way = 1; way <= most; way++) {
                if (!sees(set, way)) {
                    return way;
                }
            }
            return NONE;
        }

        /** CHOICE: chosen are its bits, chosenSees how many are SEEN. */
        void choose(int set, int k, int most) {
            Arrays.fill(seenByBits, 0);
            for (int way = 1; way <= most; way++) {
                int bits = seeing(set, way);
                if (bits >= 0 && bits < seenByBits.length) {
                    seenByBits[bits]++;
                }
            }
            chosen = NONE;
            chosenSees = NONE;
            for (int bits = 1; bits < 1 << lengthOf(set); bits++) {
                if (Integer.bitCount(bits) == k) {
                    prefer(bits, seenByChoice(bits));
                }
            }
        }

        private int seenByChoice(int choice) {
            int seen = 0;
            for (int bits = 0; bits < seenByBits.length; bits++) {
                if (Integer.bitCount(bits & choice) >= settings[NEED]) {
                    seen += seenByBits[bits];
                }
            }
            return seen;
        }

        private void prefer(int candidate, int sees) {
            if (sees > chosenSees) {
                chosen = candidate;
                chosenSees = sees;
            }
        }

        boolean putReading(int place, int v) {
            if (place < 0 || place >= readings.length || v < NONE || v > GREATEST_READING) {
                return false;
            }
            readings[place] = v;
            return true;
        }

        /** Whether each READING has a REST and is below it. */
        boolean readingsFit(int set) {
            for (int i = 0; i < readings.length; i++) {
                if (readings[i] != NONE && readings[i] >= number(set, i)) {
                    return false;
                }
            }
            return true;
        }

        int unfolded(int set, int most, int wrong, int by, int i) {
            int ways = 0;
            for (int way = 0; way <= most; way++) {
                if (manyToldOff(set, way, by) > wrong) {
                    continue;
                }
                if (ways == i) {
                    return way;
                }
                ways++;
            }
            return i == NONE ? ways : NONE;
        }

        private int manyToldOff(int set, int way, int by) {
            int off = 0;
            for (int i = 0; i < readings.length; i++) {
                int rest = number(set, i);
                if (readings[i] != NONE && rest != NONE) {
                    int apart = Math.abs(remainder(way, rest) - readings[i]);
                    if (Math.min(apart, rest - apart) > by) {
                        off++;
                    }
                }
            }
            return off;
        }

        int ghostsOf(int set, int r, int s, int most) {
            int ghosts = 0;
            for (int way = 0; way <= most; way++) {
                if (way != r && way != s && isGhost(set, r, s, way)) {
                    ghosts++;
                }
            }
            return ghosts;
        }

        private boolean isGhost(int set, int r, int s, int way) {
            for (int i = 0; i < lengthOf(set); i++) {
                int rest = number(set, i);
                int left = remainder(way, rest);
                if (left != remainder(r, rest) && left != remainder(s, rest)) {
                    return false;
                }
            }
            return true;
        }

        /** STAGGER: chosen are its digits, chosenSees how many are SEEN. */
        void staggerBest(int k, int low, int high, int most) {
            tellSeenWays(low, high, most);
            chosen = NONE;
            chosenSees = NONE;
            for (int one = low; one <= high; one++) {
                if (k == 1) {
                    prefer(one, seenByThree(one, 0, 0));
                } else {
                    staggerBehind(one, k, high);
                }
            }
        }

        private void staggerBehind(int one, int k, int high) {
            for (int two = one + 1; two <= high; two++) {
                int digits = one * 100 + two;
                if (k == 2) {
                    prefer(digits, seenByThree(one, two, 0));
                    continue;
                }
                for (int three = two + 1; three <= high; three++) {
                    prefer(digits * 100 + three, seenByThree(one, two, three));
                }
            }
        }

        private void tellSeenWays(int low, int high, int most) {
            Arrays.fill(seenWays, 0L);
            for (int rest = Math.max(low, 1); rest <= high && rest <= GREATEST_STAGGER; rest++) {
                for (int way = 1; way <= most && way <= FARTHEST_STAGGER; way++) {
                    if (isSeenBy(rest, way)) {
                        seenWays[rest * WORDS + (way >> 6)] |= 1L << (way & 63);
                    }
                }
            }
        }

        private int seenByThree(int one, int two, int three) {
            int seen = 0;
            for (int word = 0; word < WORDS; word++) {
                long a = waysOf(one, word);
                long b = waysOf(two, word);
                long c = waysOf(three, word);
                if (settings[NEED] == 1) {
                    seen += Long.bitCount(a | b | c);
                } else if (settings[NEED] == 2) {
                    seen += Long.bitCount(a & b | a & c | b & c);
                } else if (settings[NEED] == 3) {
                    seen += Long.bitCount(a & b & c);
                }
            }
            return seen;
        }

        private long waysOf(int rest, int word) {
            int i = rest * WORDS + word;
            return i >= 0 && i < seenWays.length ? seenWays[i] : 0L;
        }
    }

    /** The CELLS as they are, as they were ahead of the latest ACTS and behind those UNDONE. */
    private static final class Cells {
        private static final int MOST = 40;
        private static final int GREATEST = 999;
        private static final int LATEST = 30;
        private static final int STATES = LATEST + 1;
        private static final long TIMES = 6364136223846793005L;
        private static final long MORE = 1442695040888963407L;

        // A ring of states: ahead of the one of now those to be UNDONE, behind it those to be done AGAIN.
        private final int[] states;
        private final int[] sizes;
        private final int[] image;
        private int imageSize;
        private int now;
        private int undoable;
        private int undone;

        Cells() {
            states = new int[STATES * MOST];
            sizes = new int[STATES];
            image = new int[MOST];
            imageSize = NONE;
        }

        static boolean isValue(int v) {
            return v >= 0 && v <= GREATEST;
        }

        int size() {
            return now >= 0 && now < STATES ? sizes[now] : 0;
        }

        boolean has(int cell) {
            return cell >= 0 && cell < size();
        }

        int value(int cell) {
            return cell >= 0 && cell < size() ? states[now * MOST + cell] : NONE;
        }

        private void resize(int size) {
            if (now >= 0 && now < STATES && size >= 0 && size <= MOST) {
                sizes[now] = size;
            }
        }

        private void write(int cell, int v) {
            if (cell >= 0 && cell < size()) {
                states[now * MOST + cell] = v;
            }
        }

        int add(int v) {
            int size = size();
            if (size < MOST) {
                startAct();
                resize(size + 1);
                write(size, v);
            }
            return size();
        }

        void put(int cell, int v) {
            if (has(cell)) {
                startAct();
                write(cell, v);
            }
        }

        void drawAll(int many, int n, long seed) {
            if (many < 0 || many > MOST || n <= 0) {
                return;
            }
            startAct();
            resize(many);
            long x = seed;
            for (int cell = 0; cell < many; cell++) {
                x = x * TIMES + MORE;
                write(cell, (int) ((x >>> 33) % n));
            }
        }

        int keepImage() {
            imageSize = size();
            for (int cell = 0; cell < imageSize && cell < MOST; cell++) {
                image[cell] = value(cell);
            }
            return imageSize;
        }

        int putImageBack() {
            if (imageSize == NONE) {
                return NONE;
            }
            startAct();
            resize(imageSize);
            for (int cell = 0; cell < imageSize && cell < MOST; cell++) {
                write(cell, image[cell]);
            }
            return imageSize;
        }

        /** Goes on to a new state that is like the one of now; nothing can be done AGAIN any more. */
        private void startAct() {
            int old = now;
            int size = size();
            now = now < LATEST ? now + 1 : 0;
            resize(size);
            for (int cell = 0; cell < size && cell < MOST; cell++) {
                write(cell, states[old * MOST + cell]);
            }
            undoable = Math.min(undoable + 1, LATEST);
            undone = 0;
        }

        int goBack() {
            if (undoable == 0) {
                return NONE;
            }
            now = now > 0 ? now - 1 : LATEST;
            undoable--;
            undone++;
            return size();
        }

        int goOn() {
            if (undone == 0) {
                return NONE;
            }
            now = now < LATEST ? now + 1 : 0;
            undoable++;
            undone--;
            return size();
        }
    }

    /** What is FOUND among the CELLS. */
    private static final class Finder {
        private static final int WIDEST = 16;

        private final Cells cells;
        private final int[] settings;
        // The WINDOW of a cell, rising.
        private final int[] window;
        private int width;

        Finder(Cells cells, int[] settings) {
            this.cells = cells;
            this.settings = settings;
            window = new int[WIDEST];
        }

        int findingAt(int cell) {
            openWindow(cell);
            int order = settings[ORDER];
            if (order < 1 || order > width) {
                return HIDDEN;
            }
            return 10 * cells.value(cell) > settings[FACTOR] * window[order - 1] ? 1 : 0;
        }

        private void openWindow(int cell) {
            int nearest = settings[GUARD] + 1;
            int farthest = settings[GUARD] + settings[SIDE];
            width = 0;
            for (int far = nearest; far <= farthest; far++) {
                sortIn(cell - far);
                sortIn(cell + far);
            }
        }

        private void sortIn(int cell) {
            if (!cells.has(cell) || width >= WIDEST) {
                return;
            }
            int v = cells.value(cell);
            int i = width;
            while (i > 0 && window[i - 1] > v) {
                window[i] = window[i - 1];
                i--;
            }
            window[i] = v;
            width++;
        }

        int manyFound() {
            int many = 0;
            for (int cell = 0; cell < cells.size(); cell++) {
                if (findingAt(cell) == 1) {
                    many++;
                }
            }
            return many;
        }

        /** HEAPS: how many (0), the longest's length (1), its first cell (2). */
        int heapsOf(int what) {
            int many = 0;
            int longest = 0;
            int first = NONE;
            int length = 0;
            for (int cell = 0; cell < cells.size(); cell++) {
                length = findingAt(cell) == 1 ? length + 1 : 0;
                if (length == 1) {
                    many++;
                }
                if (length > longest) {
                    longest = length;
                    first = cell - length + 1;
                }
            }
            if (what == 0) {
                return many;
            }
            return what == 1 ? longest : first;
        }
    }

    /** SHARES of false alarms. */
    private static final class Shares {
        private static final int MOST_LEVELS = 9;

        // How many rows of the m there are whose ORDER-th is that level.
        private final long[] rowsByLevel;
        private int levels;
        private long allRows;

        Shares() {
            rowsByLevel = new long[MOST_LEVELS];
        }

        static boolean areBounds(int m, int levels, int order) {
            return within(m, 1, 8) && within(levels, 1, MOST_LEVELS) && within(order, 1, m);
        }

        void learn(int m, int levelsTold, int order) {
            levels = Math.min(levelsTold, MOST_LEVELS);
            allRows = power(levels, m + 1);
            long below = 0;
            for (int level = 0; level < levels; level++) {
                long upTo = rowsUpTo(m, order, level);
                rowsByLevel[level] = upTo - below;
                below = upTo;
            }
        }

        /** How many rows of the m have ORDER of them or more that are no higher than a level. */
        private long rowsUpTo(int m, int order, int level) {
            long rows = 0;
            for (int low = order; low <= m; low++) {
                rows += choices(m, low) * power(level + 1, low) * power(levels - 1 - level, m - low);
            }
            return rows;
        }

        private static long choices(int of, int k) {
            long choices = 1;
            for (int i = 1; i <= k; i++) {
                choices = choices * (of - i + 1) / i;
            }
            return choices;
        }

        private static long power(int base, int exponent) {
            long power = 1;
            for (int i = 0; i < exponent; i++) {
                power *= base;
            }
            return power;
        }

        long rowsAbove(int factor) {
            long rows = 0;
            for (int level = 0; level < levels; level++) {
                // Above are the levels of 0 .. levels - 1 that are more than factor * level / 10.
                int above = Math.max(0, levels - 1 - factor * level / 10);
                rows += rowsByLevel[level] * above;
            }
            return rows;
        }

        long partsAbove(int factor) {
            return allRows > 0 ? MILLION * rowsAbove(factor) / allRows : 0;
        }

        int leastFactor(int parts) {
            for (int factor = 0; factor <= 99; factor++) {
                if (partsAbove(factor) <= parts) {
                    return factor;
                }
            }
            return NONE;
        }
    }

    /** The BEAMS, and which of them are done. */
    private static final class Beams {
        private static final int MOST = 8;

        private final int[] times;
        private final int[] dues;
        private final int[] worths;
        // The BEAMS' numbers by rising DUE: if a set can be done at all, it can in this order.
        private final int[] byDue;
        private int many;

        Beams() {
            times = new int[MOST];
            dues = new int[MOST];
            worths = new int[MOST];
            byDue = new int[MOST];
        }

        int add(int time, int due, int worth) {
            if (many >= MOST) {
                return NONE;
            }
            times[many] = time;
            dues[many] = due;
            worths[many] = worth;
            int i = many;
            while (i > 0 && dueAt(i - 1) > due) {
                byDue[i] = byDue[i - 1];
                i--;
            }
            byDue[i] = many;
            many++;
            return many - 1;
        }

        /** The BEAM at a place of those by rising DUE, or NONE. */
        private int beamAt(int i) {
            int beam = i >= 0 && i < many ? byDue[i] : NONE;
            return beam < many ? beam : NONE;
        }

        private int dueAt(int i) {
            int beam = beamAt(i);
            return beam >= 0 ? dues[beam] : 0;
        }

        /** PLAN: its bits. */
        int bestSet() {
            int best = 0;
            for (int bits = 1; bits < 1 << many; bits++) {
                if (worthOf(bits) > worthOf(best) && canBeDone(bits)) {
                    best = bits;
                }
            }
            return best;
        }

        private boolean canBeDone(int bits) {
            int time = 0;
            for (int i = 0; i < many; i++) {
                int beam = beamAt(i);
                if (beam >= 0 && (bits >> beam & 1) == 1) {
                    time += times[beam];
                    if (time > dues[beam]) {
                        return false;
                    }
                }
            }
            return true;
        }

        int worthOf(int bits) {
            int sum = 0;
            for (int beam = 0; beam < many; beam++) {
                if ((bits >> beam & 1) == 1) {
                    sum += worths[beam];
                }
            }
            return sum;
        }
    }
}
