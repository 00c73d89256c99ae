import java.util.Arrays;
import java.util.Random;

/** Head 5 of the document, with promises 1, 32 to 37 and 40: what is LIKE, PARTNERS, CANCEL, STAGGER, LEAST FACTOR, HEAPS. */
public final class HeadFiveTest {
    private static final int NONE = Bench.NONE;
    private static final int HIDDEN = Bench.HIDDEN;
    private static final int CODE = Bench.CODE;
    private static final String[] SIGNS = {"+", "i", "-", "j"};

    private static final Bench bench = new Bench();

    public static void main(String[] args) {
        likeByAll();
        likeButForOne();
        likeLengths();
        likeRefused();
        partnersByComes();
        partnersRefused();
        cancel();
        cancelRefused();
        stagger();
        staggerOfNow();
        staggerBounds();
        leastFactor();
        factorBounds();
        heaps();
        heapsByModel();
        heapsRefused();
        count();
        newObject();
        manyCalls();
        bench.finish();
    }

    private static String text(int[] turns) {
        StringBuilder s = new StringBuilder();
        for (int turn : turns) {
            s.append(SIGNS[turn & 3]);
        }
        return s.toString();
    }

    /** A CODE turned: perhaps the row, perhaps the imaginary parts, then all SIGNS, then each by its place. */
    private static int[] turned(int[] code, boolean row, boolean imaginary, int all, int speed) {
        int[] to = new int[code.length];
        for (int k = 0; k < code.length; k++) {
            int one = code[row ? code.length - 1 - k : k];
            to[k] = (imaginary ? -one : one) + all + speed * k & 3;
        }
        return to;
    }

    private static int[] drawn(int length, int seed) {
        Random random = new Random(seed);
        int[] code = new int[length];
        for (int k = 0; k < length; k++) {
            code[k] = random.nextInt(4);
        }
        return code;
    }

    private static void likeByAll() {
        bench.sentence("LIKE: .. by some of these: all SIGNS turned by i (0 .. 3 times), the row turned round, each imaginary part, .. (SPEED f 0 .. 3)");
        for (int length : new int[] {1, 2, 7, 24}) {
            int[] code = drawn(length, length + 3);
            for (int n = 0; n < 64; n++) {
                int[] other = turned(code, (n & 1) == 1, (n & 2) == 2, n >> 2 & 3, n >> 4);
                PulseParts x = Bench.with(CODE, text(code), text(other));
                bench.due("like(0, 1) of " + text(code) + " and " + text(other), x.like(0, 1), 1);
                bench.due("like(1, 0) of " + text(code) + " and " + text(other), x.like(1, 0), 1);
            }
        }
        PulseParts x = Bench.with(CODE, "+9-9i6");
        bench.due("like(0, 0)", x.like(0, 0), 1);
        bench.sentence("LIKE: done in any order");
        int[] code = drawn(9, 5);
        // Turned by the places ahead of the row turned round, and of the imaginary parts.
        for (int speed = 0; speed <= 3; speed++) {
            int[] first = turned(turned(code, false, false, 1, speed), true, true, 2, 0);
            int[] last = turned(turned(turned(code, true, false, 0, speed), false, true, 3, 1), true, false, 0, speed);
            PulseParts y = Bench.with(CODE, text(code), text(first), text(last));
            bench.due("like(0, 1), SPEED " + speed + " first", y.like(0, 1), 1);
            bench.due("like(0, 2), three times", y.like(0, 2), 1);
            bench.due("like(1, 2)", y.like(1, 2), 1);
        }
    }

    private static boolean areLike(int[] one, int[] other) {
        for (int n = 0; n < 64; n++) {
            if (Arrays.equals(turned(one, (n & 1) == 1, (n & 2) == 2, n >> 2 & 3, n >> 4), other)) {
                return true;
            }
        }
        return false;
    }

    private static void likeButForOne() {
        bench.sentence("LIKE (1, 0): unlike by one SIGN, the first, the last, any");
        for (int length : new int[] {2, 3, 4, 7, 24}) {
            int[] code = drawn(length, length);
            boolean some = false;
            for (int k = 0; k < length; k++) {
                for (int more = 1; more <= 3; more++) {
                    int[] other = code.clone();
                    other[k] = other[k] + more & 3;
                    PulseParts x = Bench.with(CODE, text(code), text(other));
                    bench.due("like(0, 1) of " + text(code) + " and " + text(other), x.like(0, 1), areLike(code, other) ? 1 : 0);
                    some |= !areLike(code, other);
                }
            }
            bench.due("some of the length " + length + " are unlike", some, length > 2);
        }
    }

    private static void likeLengths() {
        bench.sentence("LIKE: two CODES of one length are: those of unlike lengths are not");
        PulseParts x = Bench.with(CODE, "+", "+2", "+9+9+6", "+9+9+5", "i", "j2");
        int[] lengths = {1, 2, 24, 23, 1, 2};
        for (int one = 0; one < 6; one++) {
            for (int other = 0; other < 6; other++) {
                bench.due("like(" + one + ", " + other + ")", x.like(one, other), lengths[one] == lengths[other] ? 1 : 0);
            }
        }
    }

    private static PulseParts two() {
        return Bench.with(CODE, "+2-", "i-j");
    }

    private static void likeRefused() {
        bench.sentence("like: NONE: no such ones");
        int[][] wrongs = {{-1, 0}, {0, -1}, {2, 0}, {0, 2}, {8, 8}, {-1, -1}, {Integer.MIN_VALUE, 0}, {0, Integer.MAX_VALUE}};
        for (int[] w : wrongs) {
            bench.unchanged("like(" + w[0] + ", " + w[1] + ")", HeadFiveTest::two, x -> x.like(w[0], w[1]), NONE);
        }
        bench.unchanged("like(0, 0) without CODES", PulseParts::new, x -> x.like(0, 0), NONE);
        bench.unchanged("like(0, 1)", HeadFiveTest::two, x -> x.like(0, 1), 0);
    }

    private static void partnersByComes() {
        bench.sentence("PARTNERS: the greatest POWER, at all WAYS but 0, SPEED 0, of COMES of the first .. and the second .. together (LAW NONE)");
        String[][] pairs = {{"+3-", "+2-+"}, {"+", "i"}, {"+2", "+-"}, {"+2", "+2"}, {"+9+9+6", "i9i9i6"}, {"+9-9i6", "j9+9-6"},
            {"i-j+2", "+4-"}, {"+3-2+-", "+3-2+-"}, {"+i", "+j"}};
        for (String[] pair : pairs) {
            PulseParts x = Bench.and(Bench.with(CODE, pair), Bench.LAW, "y:5");
            int greatest = 0;
            for (int way = -23; way <= 23; way++) {
                int real = x.comes(0, 0, NONE, way, 0, 0) + x.comes(1, 1, NONE, way, 0, 0);
                int imaginary = x.comes(0, 0, NONE, way, 0, 1) + x.comes(1, 1, NONE, way, 0, 1);
                greatest = way == 0 ? greatest : Math.max(greatest, real * real + imaginary * imaginary);
            }
            x.lobes(0, 0, 0);
            bench.due("partners of " + Arrays.toString(pair) + ", a LAW used ahead", x.partners(0, 1), greatest);
            bench.due("partners of " + Arrays.toString(pair) + ", the other way round", x.partners(1, 0), greatest);
        }
        bench.due("partners of one SIGN each: no other WAY", Bench.with(CODE, "+", "i").partners(0, 1), 0);
        bench.due("partners of Golay's", Bench.with(CODE, "+3-", "+2-+").partners(0, 1), 0);
        bench.due("partners of all alike", Bench.with(CODE, "+9+9+6").partners(0, 0), 46 * 46);
        // The farthest WAY alone: first and last of + + - and of + - -.
        bench.due("partners of ++- and +--", Bench.with(CODE, "+2-", "+-2").partners(0, 1), 4);
    }

    private static void partnersRefused() {
        bench.sentence("partners: NONE: no such ones, unlike lengths");
        PulseParts x = Bench.with(CODE, "+", "+2", "+9+9+6", "+9+9+5");
        for (int one = 0; one < 4; one++) {
            for (int other = 0; other < 4; other++) {
                bench.due("partners(" + one + ", " + other + ") is told", x.partners(one, other) != NONE, one == other);
            }
        }
        int[][] wrongs = {{-1, 0}, {0, -1}, {2, 0}, {0, 2}, {8, 8}, {-1, -1}, {2, 2}, {Integer.MIN_VALUE, 0}, {0, Integer.MAX_VALUE}};
        for (int[] w : wrongs) {
            bench.unchanged("partners(" + w[0] + ", " + w[1] + ")", HeadFiveTest::two, y -> y.partners(w[0], w[1]), NONE);
        }
        bench.unchanged("partners of unlike lengths", () -> Bench.with(CODE, "+2", "+"), y -> y.partners(0, 1), NONE);
        bench.unchanged("partners of unlike lengths", () -> Bench.with(CODE, "+", "+2"), y -> y.partners(0, 1), NONE);
        bench.unchanged("partners without CODES", PulseParts::new, y -> y.partners(0, 0), NONE);
    }

    private static void cancel() {
        bench.sentence("CANCEL of m (1 .. 8) at SPEED f: POWER of the sum over k 0 .. m of (m over k) times -1 to the k times i to the f k");
        int[] real = {1, 0, -1, 0};
        int[] imaginary = {0, 1, 0, -1};
        PulseParts x = new PulseParts();
        for (int m = 1; m <= 8; m++) {
            for (int speed = 0; speed <= 3; speed++) {
                int re = 0;
                int im = 0;
                int over = 1;
                for (int k = 0; k <= m; k++) {
                    int signed = k % 2 == 0 ? over : -over;
                    re += signed * real[speed * k & 3];
                    im += signed * imaginary[speed * k & 3];
                    over = over * (m - k) / (k + 1);
                }
                bench.due("cancel(" + m + ", " + speed + ")", x.cancel(m, speed), re * re + im * im);
            }
        }
    }

    private static void cancelRefused() {
        bench.sentence("cancel: NONE: no such ones");
        int[][] wrongs = {{0, 0}, {9, 0}, {-1, 2}, {Integer.MIN_VALUE, 2}, {Integer.MAX_VALUE, 2}, {1, -1}, {1, 4}, {8, -1}, {8, 4},
            {8, Integer.MIN_VALUE}, {8, Integer.MAX_VALUE}};
        for (int[] w : wrongs) {
            bench.unchanged("cancel(" + w[0] + ", " + w[1] + ")", HeadFiveTest::two, x -> x.cancel(w[0], w[1]), NONE);
        }
    }

    private static int seenBy(int[] rests, int most, int blind, int need) {
        int seen = 0;
        for (int r = 1; r <= most; r++) {
            int by = 0;
            for (int rest : rests) {
                by += r % rest >= blind ? 1 : 0;
            }
            seen += by >= need ? 1 : 0;
        }
        return seen;
    }

    /** STAGGER by trying all: its digits, how many are SEEN. */
    private static int[] best(int k, int low, int high, int most, int blind, int need) {
        int[] best = {NONE, NONE};
        for (int one = low; one <= high; one++) {
            for (int two = k > 1 ? one + 1 : high; two <= high; two++) {
                for (int three = k > 2 ? two + 1 : high; three <= high; three++) {
                    int[] rests = k == 1 ? new int[] {one} : k == 2 ? new int[] {one, two} : new int[] {one, two, three};
                    int digits = 0;
                    for (int rest : rests) {
                        digits = digits * 100 + rest;
                    }
                    int seen = seenBy(rests, most, blind, need);
                    if (seen > best[1] || seen == best[1] && digits < best[0]) {
                        best = new int[] {digits, seen};
                    }
                }
            }
        }
        return best;
    }

    private static void staggerIs(PulseParts x, int k, int low, int high, int most, int blind, int need) {
        int[] want = best(k, low, high, most, blind, need);
        String of = "stagger(" + k + ", " + low + ", " + high + ", " + most;
        String with = ") with BLIND " + blind + ", NEED " + need;
        bench.due(of + ", 0" + with, x.stagger(k, low, high, most, 0), want[0]);
        bench.due(of + ", 1" + with, x.stagger(k, low, high, most, 1), want[1]);
    }

    private static void stagger() {
        bench.sentence("STAGGER: of all sets of k (1 .. 3) unlike numbers of low .. high (2 .. 30) .. 1 .. so many (1 .. 300): digits to the base 100 (of several the least)");
        int[][] ranges = {{2, 2}, {2, 3}, {2, 4}, {2, 9}, {5, 12}, {28, 30}, {29, 30}, {30, 30}, {2, 30}, {10, 20}};
        for (int[] range : ranges) {
            PulseParts x = new PulseParts();
            for (int most : new int[] {1, 2, 63, 64, 65, 128, 299, 300}) {
                for (int k = 1; k <= 3; k++) {
                    staggerIs(x, k, range[0], range[1], most, 1, 1);
                }
            }
        }
    }

    private static void staggerOfNow() {
        bench.sentence("STAGGER: .. are SEEN (NEED, BLIND of now)");
        for (int blind = 0; blind <= 9; blind++) {
            PulseParts x = new PulseParts();
            x.set(0, blind);
            for (int need = 1; need <= 8; need++) {
                x.set(1, need);
                for (int k = 1; k <= 3; k++) {
                    staggerIs(x, k, 2, 12, 60, blind, need);
                    staggerIs(x, k, 8, 14, 300, blind, need);
                }
            }
        }
    }

    private static void staggerBounds() {
        bench.sentence("stagger: NONE: no such ones (fewer numbers than k, too)");
        int[][] wrongs = {{0, 2, 9, 9, 0}, {4, 2, 9, 9, 0}, {-1, 2, 9, 9, 0}, {Integer.MAX_VALUE, 2, 9, 9, 0}, {Integer.MIN_VALUE, 2, 9, 9, 0},
            {1, 1, 9, 9, 0}, {1, 0, 9, 9, 0}, {1, Integer.MIN_VALUE, 9, 9, 0}, {1, 2, 31, 9, 0}, {1, 2, Integer.MAX_VALUE, 9, 0},
            {1, 31, 31, 9, 0}, {1, 1, 1, 9, 0}, {1, 3, 2, 9, 0}, {1, 30, 2, 9, 0}, {2, 2, 2, 9, 0}, {2, 30, 30, 9, 0}, {2, 3, 2, 9, 0},
            {3, 2, 3, 9, 0}, {3, 29, 30, 9, 0}, {3, 2, 2, 9, 0}, {1, 2, 9, 0, 0}, {1, 2, 9, 301, 0}, {1, 2, 9, -1, 0},
            {1, 2, 9, Integer.MAX_VALUE, 0}, {1, 2, 9, 9, -1}, {1, 2, 9, 9, 2}, {1, 2, 9, 9, Integer.MIN_VALUE},
            {3, Integer.MAX_VALUE, Integer.MIN_VALUE, 9, 0}, {3, Integer.MIN_VALUE, Integer.MAX_VALUE, 9, 1}};
        for (int[] w : wrongs) {
            bench.unchanged("stagger" + Arrays.toString(w), HeadFiveTest::two, x -> x.stagger(w[0], w[1], w[2], w[3], w[4]), NONE);
        }
        PulseParts x = new PulseParts();
        bench.due("stagger(1, 2, 2, 1, 0)", x.stagger(1, 2, 2, 1, 0), 2);
        bench.due("stagger(2, 29, 30, 300, 0)", x.stagger(2, 29, 30, 300, 0), 2930);
        bench.due("stagger(3, 28, 30, 300, 0)", x.stagger(3, 28, 30, 300, 0), 282930);
        bench.due("stagger(3, 2, 4, 1, 0)", x.stagger(3, 2, 4, 1, 0), 20304);
        bench.unchanged("stagger(3, 2, 30, 300, 1)", HeadFiveTest::two, y -> y.stagger(3, 2, 30, 300, 1), 300);
    }

    private static void leastFactor() {
        bench.sentence("LEAST FACTOR: the least (0 .. 99) with which SHARE (of 10 to the 6) of m, L, ORDER is no more than told (0 .. 1,000,000)");
        int[][] bounds = {{1, 1, 1}, {1, 2, 1}, {1, 9, 1}, {2, 3, 1}, {2, 3, 2}, {4, 5, 2}, {8, 9, 1}, {8, 9, 5}, {8, 9, 8}, {8, 1, 8}, {8, 2, 8}};
        for (int[] b : bounds) {
            PulseParts x = new PulseParts();
            long[] shares = new long[100];
            for (int factor = 0; factor <= 99; factor++) {
                shares[factor] = x.share(b[0], b[1], b[2], factor, 1);
            }
            for (int factor = 0; factor <= 99; factor += 7) {
                for (int more = -1; more <= 1; more++) {
                    int parts = (int) shares[factor] + more;
                    int want = NONE;
                    for (int least = 99; least >= 0 && parts >= 0; least--) {
                        want = shares[least] <= parts ? least : want;
                    }
                    bench.due("factor(" + b[0] + ", " + b[1] + ", " + b[2] + ", " + parts + ")", x.factor(b[0], b[1], b[2], parts), want);
                }
            }
            bench.due("factor by 1000000", x.factor(b[0], b[1], b[2], 1000000), 0);
        }
        PulseParts x = new PulseParts();
        bench.due("factor(1, 2, 1, 250000), just as told", x.factor(1, 2, 1, 250000), 10);
        bench.due("factor(1, 2, 1, 249999): none", x.factor(1, 2, 1, 249999), NONE);
        bench.due("factor(1, 2, 1, 0): none", x.factor(1, 2, 1, 0), NONE);
        bench.due("factor(1, 1, 1, 0): no row at all", x.factor(1, 1, 1, 0), 0);
        bench.due("factor(8, 9, 8, 0), cut to 0", x.factor(8, 9, 8, 0), 70);
        // 99 is the last that is tried: 10 times 9 less 1 .. 80 against 99 times 0 or 1.
        bench.due("factor(1, 9, 1, 98765): 8 of 81 rows", x.factor(1, 9, 1, 98765), 80);
        bench.due("factor(1, 9, 1, 98764): none", x.factor(1, 9, 1, 98764), NONE);
    }

    private static void factorBounds() {
        bench.sentence("factor: NONE: none, no such ones");
        int[][] wrongs = {{0, 2, 1, 1000000}, {9, 2, 1, 1000000}, {-1, 2, 1, 1000000}, {Integer.MAX_VALUE, 2, 1, 1000000}, {3, 0, 1, 1000000},
            {3, 10, 1, 1000000}, {3, Integer.MIN_VALUE, 1, 1000000}, {3, 2, 0, 1000000}, {3, 2, 4, 1000000}, {1, 2, 2, 1000000},
            {3, 2, Integer.MAX_VALUE, 1000000}, {3, 2, 1, -1}, {3, 2, 1, 1000001}, {3, 2, 1, Integer.MAX_VALUE}, {3, 2, 1, Integer.MIN_VALUE},
            {1, 2, 1, 249999}};
        for (int[] w : wrongs) {
            bench.unchanged("factor" + Arrays.toString(w), HeadFiveTest::two, x -> x.factor(w[0], w[1], w[2], w[3]), NONE);
        }
        bench.unchanged("factor(8, 9, 8, 1000000)", HeadFiveTest::two, x -> x.factor(8, 9, 8, 1000000), 0);
    }

    /** CELLS of which just those of 9 are FOUND: each against the two next to it and FACTOR 0, or all against all. */
    private static PulseParts marked(String marks) {
        PulseParts x = new PulseParts();
        for (int i = 0; i < marks.length(); i++) {
            x.cell(marks.charAt(i) == '#' ? 9 : 0);
        }
        x.set(2, 0);
        x.set(4, 1);
        x.set(5, 0);
        return x;
    }

    private static void heapsAre(String marks, int many, int longest, int first) {
        PulseParts x = marked(marks);
        bench.due("heaps(0) of " + marks, x.heaps(0), many);
        bench.due("heaps(1) of " + marks, x.heaps(1), longest);
        bench.due("heaps(2) of " + marks, x.heaps(2), first);
    }

    private static void heaps() {
        bench.sentence("HEAPS: rows of FOUND cells next to one another (none between): how many; the longest's length; its first cell (of several the first)");
        heapsAre("", 0, 0, NONE);
        heapsAre("..", 0, 0, NONE);
        heapsAre("........................................", 0, 0, NONE);
        heapsAre("########################################", 1, 40, 0);
        heapsAre("#.", 1, 1, 0);
        heapsAre(".#", 1, 1, 1);
        heapsAre("#......................................#", 2, 1, 0);
        heapsAre("#.#", 2, 1, 0);
        heapsAre("##.", 1, 2, 0);
        heapsAre(".##", 1, 2, 1);
        heapsAre("##.##", 2, 2, 0);
        heapsAre("#.##", 2, 2, 2);
        heapsAre("##.#", 2, 2, 0);
        heapsAre(".#.##.###.##.#", 5, 3, 6);
        heapsAre("#.##.###.###.##", 5, 3, 5);
        heapsAre(".#.#.#.#.#.#.#.#.#.#.#.#.#.#.#.#.#.#.#.#", 20, 1, 1);
        heapsAre(".......................................#", 1, 1, 39);
        heapsAre("......................................##", 1, 2, 38);
        // One CELL alone has no WINDOW, so it is not told, and not FOUND.
        heapsAre("#", 0, 0, NONE);
        // Not told at the ends: with ORDER 4 of three on each side.
        PulseParts x = marked("#########");
        x.set(4, 4);
        bench.due("heaps(0), the ends not told", x.heaps(0), 1);
        bench.due("heaps(1), the ends not told", x.heaps(1), 7);
        bench.due("heaps(2), the ends not told", x.heaps(2), 1);
        x.set(4, 6);
        bench.due("heaps(1), three at each end not told", x.heaps(1), 3);
        bench.due("heaps(2), three at each end not told", x.heaps(2), 3);
        x.set(4, 7);
        bench.due("heaps(0), none told", x.heaps(0), 0);
        bench.due("heaps(1), none told", x.heaps(1), 0);
        bench.due("heaps(2), none told", x.heaps(2), NONE);
    }

    private static void heapsByModel() {
        bench.sentence("HEAPS of what is FOUND one by one");
        for (int seed = 1; seed <= 60; seed++) {
            PulseParts x = new PulseParts();
            x.draw(1 + seed % 40, 40, seed);
            x.set(4, 1 + seed % 4);
            x.set(5, 5 + seed % 10);
            int many = 0;
            int longest = 0;
            int first = NONE;
            int from = 0;
            for (int cell = 0; cell <= x.count(4); cell++) {
                if (x.found(cell) != 1) {
                    many += cell > from ? 1 : 0;
                    if (cell - from > longest) {
                        longest = cell - from;
                        first = from;
                    }
                    from = cell + 1;
                }
            }
            bench.due("heaps(0), seed " + seed, x.heaps(0), many);
            bench.due("heaps(1), seed " + seed, x.heaps(1), longest);
            bench.due("heaps(2), seed " + seed, x.heaps(2), first);
        }
    }

    private static void heapsRefused() {
        bench.sentence("heaps: HIDDEN: no such what; (1; 0 if none), (2; NONE: none)");
        for (int what : new int[] {-1, 3, Integer.MIN_VALUE, Integer.MAX_VALUE}) {
            bench.unchanged("heaps(" + what + ")", () -> marked("##.#"), x -> x.heaps(what), HIDDEN);
            bench.unchanged("heaps(" + what + ") without CELLS", PulseParts::new, x -> x.heaps(what), HIDDEN);
        }
        int[] none = {0, 0, NONE};
        for (int what = 0; what <= 2; what++) {
            int asked = what;
            bench.unchanged("heaps(" + what + ") without CELLS", PulseParts::new, x -> x.heaps(asked), none[what]);
        }
        bench.unchanged("heaps(1)", () -> marked("##.#"), x -> x.heaps(1), 2);
    }

    private static void count() {
        bench.sentence("count: 0 CODES, 1 LAWS, 2 SETS of RESTS, 3 bytes of the TAPE, 4 CELLS, 5 BEAMS, 6 ACTS that can be UNDONE, 7 done AGAIN. HIDDEN for others.");
        PulseParts x = new PulseParts();
        for (int what = 0; what <= 7; what++) {
            bench.due("count(" + what + "), new", x.count(what), 0);
        }
        for (int i = 0; i < 8; i++) {
            Bench.and(x, CODE, "+");
            x.beam(1, 1, 1);
        }
        for (int i = 0; i < 6; i++) {
            Bench.and(x, Bench.LAW, "y:1");
            Bench.and(x, Bench.RESTS, "2");
        }
        for (int i = 0; i < 40; i++) {
            x.cell(i);
        }
        Bench.feed(x, Bench.times("+", 120));
        int[] full = {8, 6, 6, 120, 40, 8, 30, 0};
        for (int what = 0; what <= 7; what++) {
            bench.due("count(" + what + "), full", x.count(what), full[what]);
        }
        for (int i = 0; i < 30; i++) {
            x.undo(false);
        }
        bench.due("count(4), 30 UNDONE", x.count(4), 10);
        bench.due("count(6), 30 UNDONE", x.count(6), 0);
        bench.due("count(7), 30 UNDONE", x.count(7), 30);
        for (int what : new int[] {-1, 8, Integer.MIN_VALUE, Integer.MAX_VALUE}) {
            bench.unchanged("count(" + what + ")", HeadFiveTest::two, y -> y.count(what), HIDDEN);
        }
    }

    private static void newObject() {
        bench.sentence("PulseParts(): No CODES, no CELLS.");
        bench.due("NONE", PulseParts.NONE, -1);
        bench.due("HIDDEN", PulseParts.HIDDEN, -1000000);
        bench.unchanged("sign(0, -1)", PulseParts::new, x -> Bench.signOf(x, 0, NONE), Bench.THROWN);
        bench.unchanged("at(0)", PulseParts::new, x -> x.at(0), NONE);
        // What others were told does not matter.
        PulseParts one = Bench.and(Bench.with(CODE, "+2-"), Bench.RESTS, "5,7");
        one.cell(3);
        one.set(0, 5);
        one.beam(1, 1, 1);
        one.read(0, 1);
        PulseParts other = new PulseParts();
        for (int what = 0; what <= 7; what++) {
            bench.due("count(" + what + ") of another", other.count(what), 0);
        }
        Bench.and(other, Bench.RESTS, "5,7");
        bench.due("seen(0, 1) of another", other.seen(0, 1), 1);
        bench.due("unfold of another", other.unfold(0, 9, 0, 0, NONE), 10);
        bench.due("plan(0) of another", other.plan(0), NONE);
    }

    private static void manyCalls() {
        bench.sentence("An object is used for at most 512 calls: the 512th answers as the first");
        PulseParts x = new PulseParts();
        x.cell(0);
        for (int call = 2; call <= 511; call++) {
            x.change(0, call);
        }
        bench.due("at(0), the 512th call", x.at(0), 511);
        PulseParts tape = new PulseParts();
        for (int call = 0; call + 3 <= 510; call += 3) {
            tape.feed('+' << 24, 0, 0, 0, 0);
            tape.text(CODE);
            tape.end(0);
        }
        bench.due("text(0) of nothing, the 511th call", tape.text(CODE), NONE);
        bench.due("count(0), the 512th call", tape.count(0), 8);
        PulseParts dear = Bench.with(CODE, "+3-2+", "i-j+-i");
        int first = dear.filter(1, 0);
        for (int call = 5; call < 511; call++) {
            dear.stagger(3, 2, 30, 300, 0);
        }
        bench.due("filter(1, 0), the 511th call", dear.filter(1, 0), first);
        bench.due("best(12, 1), the 512th call", dear.best(12, 1), 4);
        PulseParts acts = Bench.cells(1, 2, 3);
        for (int call = 4; call <= 511; call++) {
            acts.undo(call % 2 == 1);
        }
        bench.due("count(4), the 512th call", acts.count(4), 3);
    }
}
