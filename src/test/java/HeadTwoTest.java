/** Head 2 of the document, with promises 8 to 14: FILTERS, what COMES of them, SIDES, FRIENDS, the best ones. */
public final class HeadTwoTest {
    private static final int NONE = Bench.NONE;
    private static final int HIDDEN = Bench.HIDDEN;
    private static final int CODE = Bench.CODE;
    private static final int LAW = Bench.LAW;

    private static final Bench bench = new Bench();

    public static void main(String[] args) {
        places();
        held();
        letters();
        ownFilter();
        ways();
        speeds();
        meeting();
        turnedRound();
        whatComes();
        lobesByComes();
        oneSign();
        farthestSides();
        loss();
        lobesRefused();
        hinder();
        friends();
        bestLengths();
        bestOrder();
        filterLengths();
        filterOrder();
        bench.finish();
    }

    /** A CODE of one SIGN, one of 24, one of 4; a LAW of k, one of n. */
    private static PulseParts some() {
        return Bench.and(Bench.with(CODE, "i", "+9-9i6", "+i-j"), LAW, "y:k", "y:n-20");
    }

    private static void places() {
        bench.sentence("at each place k (0 .. length less 1) WEIGHT; weight: HIDDEN: no such ones");
        PulseParts x = some();
        bench.due("weight(0, 0, 0)", x.weight(0, 0, 0), 0);
        bench.due("weight(1, 0, 0)", x.weight(1, 0, 0), 0);
        bench.due("weight(1, 0, 1)", x.weight(1, 0, 1), 1);
        bench.due("weight(1, 0, 8)", x.weight(1, 0, 8), 8);
        bench.due("weight(1, 1, 23)", x.weight(1, 1, 23), 4);
        bench.due("weight(0, 1, 0)", x.weight(0, 1, 0), -9);
        int[][] wrongs = {{-1, 0, 0}, {3, 0, 0}, {8, 0, 0}, {Integer.MIN_VALUE, 0, 0}, {0, -2, 0}, {0, 2, 0}, {0, 6, 0},
            {0, Integer.MAX_VALUE, 0}, {0, 0, -1}, {0, 0, 1}, {1, 0, 24}, {1, -1, 24}, {1, -1, -1}, {2, 0, 4},
            {1, 0, Integer.MIN_VALUE}, {1, 0, Integer.MAX_VALUE}, {-1, -1, -1}};
        for (int[] w : wrongs) {
            bench.unchanged("weight(" + w[0] + ", " + w[1] + ", " + w[2] + ")", HeadTwoTest::some, y -> y.weight(w[0], w[1], w[2]), HIDDEN);
        }
        bench.unchanged("weight(0, -1, 0) without CODES", PulseParts::new, y -> y.weight(0, NONE, 0), HIDDEN);
        bench.sentence("(the LAW NONE: WEIGHT 1)");
        for (int k = 0; k < 24; k++) {
            bench.due("weight(1, -1, " + k + ")", x.weight(1, NONE, k), 1);
        }
        bench.due("weight(0, -1, 0) without LAWS", Bench.with(CODE, "j").weight(0, NONE, 0), 1);
        bench.due("weight(0, 0, 0) without LAWS", Bench.with(CODE, "j").weight(0, 0, 0), HIDDEN);
    }

    private static void held() {
        bench.sentence("WEIGHT: WORTH, held within -9 .. 9");
        String[] laws = {"y:8", "y:9", "y:10", "y:9999*9999", "y:0-8", "y:0-9", "y:0-10", "y:[0-9999]*9999"};
        int[] want = {8, 9, 9, 9, -8, -9, -9, -9};
        for (int i = 0; i < laws.length; i++) {
            PulseParts x = Bench.and(Bench.with(CODE, "+"), LAW, laws[i]);
            bench.due("weight by " + laws[i], x.weight(0, 0, 0), want[i]);
            bench.due("comes by " + laws[i], x.comes(0, 0, 0, 0, 0, 0), want[i]);
            bench.due("PEAK by " + laws[i], x.lobes(0, 0, 0), want[i] * want[i]);
        }
    }

    private static void letters() {
        bench.sentence("letters: k the place, n the length, a, b the SIGN's real and imaginary part");
        PulseParts x = Bench.and(Bench.with(CODE, "i", "+i-j", "+9-9i6"), LAW, "y:k", "y:n", "y:a", "y:b", "y:n-k-15");
        int[] a = {1, 0, -1, 0};
        int[] b = {0, 1, 0, -1};
        for (int k = 0; k < 4; k++) {
            bench.due("weight by k", x.weight(1, 0, k), k);
            bench.due("weight by n", x.weight(1, 1, k), 4);
            bench.due("weight by a", x.weight(1, 2, k), a[k]);
            bench.due("weight by b", x.weight(1, 3, k), b[k]);
        }
        bench.due("weight by n of one SIGN", x.weight(0, 1, 0), 1);
        bench.due("weight by n less k less 15, first of 24", x.weight(2, 4, 0), 9);
        bench.due("weight by n less k less 15, last of 24", x.weight(2, 4, 23), -9);
        bench.due("weight by n less k less 15, of 9", x.weight(2, 4, 9), 0);
    }

    private static void ownFilter() {
        bench.sentence("TAKEN times the SIGN (so that with WEIGHT 1 it is the CODE itself)");
        PulseParts x = Bench.and(Bench.with(CODE, "+2i-j3", "j-i"), LAW, "y:1");
        for (int way = -23; way <= 23; way++) {
            for (int what = 0; what <= 2; what++) {
                bench.due("comes by WEIGHT 1, WAY " + way, x.comes(0, 1, 0, way, 1, what), x.comes(0, 1, NONE, way, 1, what));
            }
        }
    }

    private static void ways() {
        bench.sentence("a WAY w (-23 .. 23)");
        PulseParts x = Bench.with(CODE, "i+9-9j5", "-i+9+9+4");
        // One place meets one: the last of the first CODE the first of the second, or the other way round.
        bench.due("WAY 23, the real part of -i by -1", x.comes(0, 1, NONE, 23, 0, 0), 0);
        bench.due("WAY 23, the imaginary part", x.comes(0, 1, NONE, 23, 0, 1), 1);
        bench.due("WAY 23, POWER", x.comes(0, 1, NONE, 23, 0, 2), 1);
        bench.due("WAY -23, the real part of i by 1", x.comes(0, 1, NONE, -23, 0, 0), 0);
        bench.due("WAY -23, the imaginary part", x.comes(0, 1, NONE, -23, 0, 1), 1);
        bench.due("WAY -23, POWER", x.comes(0, 1, NONE, -23, 0, 2), 1);
        int[] wrongs = {24, -24, Integer.MAX_VALUE, Integer.MIN_VALUE};
        for (int way : wrongs) {
            for (int what = 0; what <= 2; what++) {
                int asked = what;
                bench.unchanged("comes at WAY " + way, HeadTwoTest::some, y -> y.comes(1, 1, NONE, way, 0, asked), HIDDEN);
                bench.unchanged("comes at WAY " + way + " of one SIGN", HeadTwoTest::some, y -> y.comes(0, 0, NONE, way, 0, asked), HIDDEN);
            }
        }
    }

    private static void speeds() {
        bench.sentence("a SPEED f (0 .. 3): .. the SIGN at k times i to the f k");
        PulseParts x = Bench.with(CODE, "+", "+9+9+6", "+5");
        int[] real = {1, 0, -1, 0};
        int[] imaginary = {0, 1, 0, -1};
        for (int speed = 0; speed <= 3; speed++) {
            // The second is one SIGN, so just the place w of the first meets it.
            for (int way = -1; way <= 24; way++) {
                boolean meets = way >= 0 && way <= 23;
                boolean asked = way <= 23;
                int turn = speed * way & 3;
                bench.due("real part at WAY " + way + ", SPEED " + speed, x.comes(1, 0, NONE, way, speed, 0),
                        !asked ? HIDDEN : meets ? real[turn] : 0);
                bench.due("imaginary part at WAY " + way + ", SPEED " + speed, x.comes(1, 0, NONE, way, speed, 1),
                        !asked ? HIDDEN : meets ? imaginary[turn] : 0);
            }
        }
        int[] wrongs = {-1, 4, Integer.MAX_VALUE, Integer.MIN_VALUE};
        for (int speed : wrongs) {
            bench.unchanged("comes at SPEED " + speed, HeadTwoTest::some, y -> y.comes(1, 1, NONE, 0, speed, 0), HIDDEN);
        }
    }

    private static void meeting() {
        bench.sentence("over all places k of the first with k less w a place of the second");
        PulseParts x = Bench.with(CODE, "+3", "+5", "+9+9+6");
        int[] lengths = {3, 5, 24};
        for (int one = 0; one < 3; one++) {
            for (int other = 0; other < 3; other++) {
                for (int way = -23; way <= 23; way++) {
                    int meet = 0;
                    for (int k = 0; k < lengths[one]; k++) {
                        meet += k - way >= 0 && k - way < lengths[other] ? 1 : 0;
                    }
                    bench.due("comes(" + one + ", " + other + ") at WAY " + way, x.comes(one, other, NONE, way, 0, 0), meet);
                }
                x = Bench.with(CODE, "+3", "+5", "+9+9+6");
            }
        }
    }

    private static void turnedRound() {
        bench.sentence("times the FILTER's (at k less w) with its imaginary part turned round");
        PulseParts x = Bench.and(Bench.with(CODE, "+", "i", "-", "j"), LAW, "y:3");
        int[] real = {1, 0, -1, 0};
        int[] imaginary = {0, 1, 0, -1};
        for (int one = 0; one < 4; one++) {
            for (int other = 0; other < 4; other++) {
                int turn = one - other & 3;
                bench.due("real part of " + one + " by " + other, x.comes(one, other, NONE, 0, 0, 0), real[turn]);
                bench.due("imaginary part of " + one + " by " + other, x.comes(one, other, NONE, 0, 0, 1), imaginary[turn]);
                bench.due("imaginary part of " + one + " by 3 times " + other, x.comes(one, other, 0, 0, 0, 1), 3 * imaginary[turn]);
            }
        }
        bench.sentence("a CODE's FILTER (of the same or another CODE)");
        // The LAW tells the WEIGHTS from the second's places, length and SIGNS.
        PulseParts y = Bench.and(Bench.with(CODE, "+2", "i3"), LAW, "y:k+1", "y:n", "y:b+2");
        bench.due("by k and 1, WAY 1: at place 1 by the first of 1", y.comes(0, 1, 0, 1, 0, 1), -1);
        bench.due("by k and 1, WAY -2: at place 0 by the third of 3", y.comes(0, 1, 0, -2, 0, 1), -3);
        bench.due("by n, WAY 1", y.comes(0, 1, 1, 1, 0, 1), -3);
        bench.due("by b and 2, WAY 1", y.comes(0, 1, 2, 1, 0, 1), -3);
        bench.due("by n, the other way round", y.comes(1, 0, 1, -1, 0, 1), 2);
        bench.due("by b and 2, the other way round", y.comes(1, 0, 2, -1, 0, 1), 2);
    }

    private static void whatComes() {
        bench.sentence("comes: the real part (0), the imaginary part (1), POWER (2). HIDDEN: no such ones.");
        PulseParts x = Bench.and(Bench.with(CODE, "+2i", "+3"), LAW, "y:k+1");
        bench.due("comes, 0", x.comes(0, 1, 0, 0, 0, 0), 3);
        bench.due("comes, 1", x.comes(0, 1, 0, 0, 0, 1), 3);
        bench.due("comes, 2", x.comes(0, 1, 0, 0, 0, 2), 18);
        int[][] wrongs = {{0, 0, -1, 0, 0, -1}, {0, 0, -1, 0, 0, 3}, {0, 0, -1, 0, 0, Integer.MAX_VALUE}, {-1, 0, -1, 0, 0, 0},
            {3, 0, -1, 0, 0, 0}, {0, -1, -1, 0, 0, 0}, {0, 3, -1, 0, 0, 0}, {8, 8, -1, 0, 0, 0}, {0, 0, -2, 0, 0, 0}, {0, 0, 2, 0, 0, 0},
            {Integer.MIN_VALUE, 0, -1, 0, 0, 0}, {0, Integer.MAX_VALUE, -1, 0, 0, 0}, {0, 0, Integer.MIN_VALUE, 0, 0, 0}};
        for (int[] w : wrongs) {
            bench.unchanged("comes" + java.util.Arrays.toString(w), HeadTwoTest::some,
                    y -> y.comes(w[0], w[1], w[2], w[3], w[4], w[5]), HIDDEN);
        }
        bench.unchanged("comes without CODES", PulseParts::new, y -> y.comes(0, 0, NONE, 0, 0, 0), HIDDEN);
    }

    private static int power(PulseParts x, int code, int law, int way, int speed) {
        return x.comes(code, code, law, way, speed, 2);
    }

    private static void lobesByComes() {
        bench.sentence("PEAK: at WAY 0, SPEED 0. SIDE: the greatest POWER at all other WAYS, SPEED 0; SIDES: together. LEAK: at any WAY");
        String[] codes = {"+3-2+-", "+i-j+2", "j-i2+3", "+9-9i6", "-+i", "+2", "i+2", "+5-2+2-+-+"};
        String[] laws = {"y:1", "y:k", "y:n-k", "y:a+b+2", "y:k=0?9", "y:k+1=n?9"};
        for (String code : codes) {
            for (String law : laws) {
                PulseParts x = Bench.and(Bench.with(CODE, code), LAW, law);
                int side = 0;
                int sides = 0;
                int leak = 0;
                for (int way = -23; way <= 23; way++) {
                    if (way != 0) {
                        side = Math.max(side, power(x, 0, 0, way, 0));
                        sides += power(x, 0, 0, way, 0);
                    }
                    for (int speed = 1; speed <= 3; speed++) {
                        leak = Math.max(leak, power(x, 0, 0, way, speed));
                    }
                }
                String of = " of " + code + " by " + law;
                bench.due("PEAK" + of, x.lobes(0, 0, 0), power(x, 0, 0, 0, 0));
                bench.due("SIDE" + of, x.lobes(0, 0, 1), side);
                bench.due("SIDES" + of, x.lobes(0, 0, 2), sides);
                bench.due("LEAK" + of, x.lobes(0, 0, 3), leak);
            }
        }
    }

    private static void oneSign() {
        bench.sentence("SIDE, SIDES of one SIGN: there is no other WAY at which places meet");
        for (String code : new String[] {"+", "i", "-", "j"}) {
            PulseParts x = Bench.and(Bench.with(CODE, code), LAW, "y:9", "y:0");
            int[] want = {1, 0, 0, 1, 1000000};
            int[] nine = {81, 0, 0, 81, 1000000};
            for (int what = 0; what <= 4; what++) {
                bench.due("lobes(0, -1, " + what + ") of " + code, x.lobes(0, NONE, what), want[what]);
                bench.due("lobes(0, 0, " + what + ") of " + code, x.lobes(0, 0, what), nine[what]);
                bench.due("lobes(0, 1, " + what + ") of " + code, x.lobes(0, 1, what), 0);
            }
        }
    }

    private static void farthestSides() {
        bench.sentence("at all other WAYS: those below 0, those above 0, the farthest");
        // Two SIGNS: with a WEIGHT at the second alone, just WAY -1 has POWER; at the first alone, just WAY 1.
        PulseParts x = Bench.and(Bench.with(CODE, "+2", "+9+9+6"), LAW, "y:k", "y:1-k", "y:k/23", "y:1/[k+1]");
        for (int law = 0; law <= 1; law++) {
            bench.due("SIDE of two", x.lobes(0, law, 1), 1);
            bench.due("SIDES of two", x.lobes(0, law, 2), 1);
            bench.due("SIDE of 24", x.lobes(1, 2 + law, 1), 1);
            bench.due("SIDES of 24", x.lobes(1, 2 + law, 2), 23);
        }
        bench.due("WAY -1 by the second", x.comes(0, 0, 0, -1, 0, 2), 1);
        bench.due("WAY 1 by the second", x.comes(0, 0, 0, 1, 0, 2), 0);
        bench.due("WAY -1 by the first", x.comes(0, 0, 1, -1, 0, 2), 0);
        bench.due("WAY 1 by the first", x.comes(0, 0, 1, 1, 0, 2), 1);
        // The greatest that there is.
        PulseParts y = Bench.and(Bench.with(CODE, "i9i9i6"), LAW, "y:9");
        bench.due("PEAK of 24 by 9", y.lobes(0, 0, 0), 46656);
        bench.due("SIDE of 24 by 9", y.lobes(0, 0, 1), 207 * 207);
        bench.due("SIDES of 24 by 9", y.lobes(0, 0, 2), 2 * 81 * 23 * 24 * 47 / 6);
        bench.due("LOSS of 24 by 9", y.lobes(0, 0, 4), 1000000);
    }

    private static void loss() {
        bench.sentence("LOSS: of 10 to the 6, cut: PEAK by (length times all WEIGHTS' squares) (0 if these are 0)");
        PulseParts x = Bench.and(Bench.with(CODE, "+3", "i-j", "+7"), LAW, "y:0", "y:k", "y:k+1", "y:k-1", "y:k=0?0-9", "y:k=1?2;y:1");
        bench.due("WEIGHTS 0 0 0", x.lobes(0, 0, 4), 0);
        bench.due("WEIGHTS 0 1 2", x.lobes(0, 1, 4), 600000);
        bench.due("WEIGHTS 1 2 3", x.lobes(0, 2, 4), 857142);
        bench.due("WEIGHTS 1 2 3, other SIGNS", x.lobes(1, 2, 4), 857142);
        bench.due("WEIGHTS -1 0 1, no PEAK", x.lobes(0, 3, 4), 0);
        bench.due("WEIGHTS -9 0 0", x.lobes(0, 4, 4), 333333);
        bench.due("WEIGHTS 1 2 1", x.lobes(0, 5, 4), 888888);
        bench.due("WEIGHTS -9 0 0 0 0 0 0", x.lobes(2, 4, 4), 142857);
        bench.due("WEIGHTS 1 1 1", x.lobes(0, NONE, 4), 1000000);
    }

    private static void lobesRefused() {
        bench.sentence("lobes: NONE: no such ones");
        int[][] wrongs = {{-1, -1, 0}, {3, -1, 0}, {8, -1, 0}, {Integer.MIN_VALUE, -1, 0}, {0, -2, 0}, {0, 2, 0}, {0, 6, 0},
            {0, Integer.MAX_VALUE, 0}, {0, 0, -1}, {0, 0, 5}, {0, 0, Integer.MAX_VALUE}, {0, 0, Integer.MIN_VALUE}};
        for (int[] w : wrongs) {
            bench.unchanged("lobes" + java.util.Arrays.toString(w), HeadTwoTest::some, x -> x.lobes(w[0], w[1], w[2]), NONE);
        }
        bench.unchanged("lobes without CODES", PulseParts::new, x -> x.lobes(0, NONE, 0), NONE);
    }

    private static void hinder() {
        bench.sentence("HINDER of two CODES: the greatest POWER at any WAY, SPEED 0 (LAW NONE)");
        String[] codes = {"+9+9+6", "+", "+3-2+-", "i3", "+i-j", "-9+9j6", "+2-", "j-+i-"};
        PulseParts x = Bench.and(Bench.with(CODE, codes), LAW, "y:0");
        for (int one = 0; one < 8; one++) {
            PulseParts y = Bench.with(CODE, codes);
            for (int other = 0; other < 8; other++) {
                int greatest = 0;
                for (int way = -23; way <= 23; way++) {
                    greatest = Math.max(greatest, y.comes(one, other, NONE, way, 0, 2));
                }
                bench.due("hinder(" + one + ", " + other + ")", x.hinder(one, other), greatest);
                bench.due("hinder(" + other + ", " + one + ")", x.hinder(other, one), greatest);
            }
        }
        bench.due("hinder(0, 0)", x.hinder(0, 0), 576);
        bench.due("hinder(1, 1)", x.hinder(1, 1), 1);
        // A LAW that is told ahead of the CODES does not matter.
        PulseParts lawFirst = Bench.and(Bench.with(LAW, "y:0"), CODE, "+3", "-4");
        bench.due("hinder(0, 0), a LAW ahead", lawFirst.hinder(0, 0), 9);
        bench.due("hinder(0, 1), a LAW ahead", lawFirst.hinder(0, 1), 9);
        bench.due("hinder(1, 1), a LAW ahead", lawFirst.hinder(1, 1), 16);
        bench.due("friends(8), a LAW ahead", lawFirst.friends(8), 1);
        // The greatest at the farthest WAYS: the last alone meets the first alone.
        PulseParts far = Bench.with(CODE, "+2", "+-");
        bench.due("hinder(+2, +-)", far.hinder(0, 1), 1);
        int[][] wrongs = {{-1, 0}, {0, -1}, {3, 0}, {0, 3}, {8, 8}, {Integer.MIN_VALUE, 0}, {0, Integer.MAX_VALUE}};
        for (int[] w : wrongs) {
            bench.unchanged("hinder(" + w[0] + ", " + w[1] + ")", HeadTwoTest::some, y -> y.hinder(w[0], w[1]), NONE);
        }
        bench.unchanged("hinder(0, 0) without CODES", PulseParts::new, y -> y.hinder(0, 0), NONE);
    }

    private static void friends() {
        bench.sentence("friends: NONE: no CODES, bound below 0");
        int[] below = {-1, -2, Integer.MIN_VALUE};
        for (int bound : below) {
            bench.unchanged("friends(" + bound + ")", HeadTwoTest::some, x -> x.friends(bound), NONE);
            bench.unchanged("friends(" + bound + ") without CODES", PulseParts::new, x -> x.friends(bound), NONE);
        }
        bench.unchanged("friends(0) without CODES", PulseParts::new, x -> x.friends(0), NONE);
        bench.unchanged("friends(greatest) without CODES", PulseParts::new, x -> x.friends(Integer.MAX_VALUE), NONE);
        bench.due("friends(0) of one CODE", Bench.with(CODE, "+5").friends(0), 1);
        bench.due("friends(greatest) of one CODE", Bench.with(CODE, "+5").friends(Integer.MAX_VALUE), 1);
        bench.due("friends(0)", some().friends(0), 1);
        bench.due("friends(greatest)", some().friends(Integer.MAX_VALUE), 7);

        bench.sentence("FRIENDS by a bound: .. no two HINDER one another by more (of several the least bits)");
        // + and + HINDER by 1; +2 and +2 by 4; +2 and + by 1.
        PulseParts x = Bench.with(CODE, "+2", "+2", "+", "+2");
        bench.due("friends(0)", x.friends(0), 1);
        bench.due("friends(1)", x.friends(1), 0b101);
        bench.due("friends(3)", x.friends(3), 0b101);
        bench.due("friends(4)", x.friends(4), 0b1111);
        PulseParts last = Bench.with(CODE, "+9", "+9", "+9", "+9", "+9", "+9", "+8", "+");
        bench.due("friends(0) of eight", last.friends(0), 1);
        bench.due("friends(1) of eight: the first and the last", last.friends(1), 0b10000001);
        bench.due("friends(63) of eight", last.friends(63), 0b10000001);
        bench.due("friends(64) of eight", last.friends(64), 0b11000001);
        bench.due("friends(80) of eight", last.friends(80), 0b11000001);
        bench.due("friends(81) of eight", last.friends(81), 0b11111111);
        // A CODE and itself are not two.
        bench.due("friends(1) of +9 and +", Bench.with(CODE, "+9", "+").friends(1), 3);
        bench.due("more of them, though their bits are greater", Bench.with(CODE, "+9", "+8", "+", "-", "i").friends(1), 0b11101);
    }

    private static void bestLengths() {
        bench.sentence("BEST CODE of a length (2 .. 12; with + and - alone); best: NONE: no such ones");
        int[][] wrongs = {{1, 0}, {13, 0}, {0, 0}, {-1, 0}, {Integer.MIN_VALUE, 0}, {Integer.MAX_VALUE, 0}, {2, -1}, {2, 4}, {12, -1}, {12, 4},
            {5, Integer.MAX_VALUE}, {5, Integer.MIN_VALUE}};
        for (int[] w : wrongs) {
            bench.unchanged("best(" + w[0] + ", " + w[1] + ")", HeadTwoTest::some, x -> x.best(w[0], w[1]), NONE);
            bench.unchanged("best(" + w[0] + ", " + w[1] + "), new", PulseParts::new, x -> x.best(w[0], w[1]), NONE);
        }
        PulseParts x = new PulseParts();
        int[] two = {0, 1, 2, 4};
        for (int what = 0; what <= 3; what++) {
            bench.due("best(2, " + what + ")", x.best(2, what), two[what]);
            bench.unchanged("best(12, " + what + ")", HeadTwoTest::some, y -> y.best(12, 1), 4);
        }
    }

    /** SIDE and SIDES of a CODE of + and -, by what comes() tells. */
    private static int[] sideAndSides(int number, int length) {
        int[] found = new int[2];
        for (int way = 1; way < length; way++) {
            int sum = 0;
            for (int k = way; k < length; k++) {
                int here = number >> length - 1 - k & 1;
                int there = number >> length - 1 - k + way & 1;
                sum += here == there ? 1 : -1;
            }
            found[0] = Math.max(found[0], sum * sum);
            found[1] += 2 * sum * sum;
        }
        return found;
    }

    private static void bestOrder() {
        bench.sentence("the least SIDE, then the least SIDES, then the least number (.. the last place the lowest); how many have that SIDE");
        PulseParts x = new PulseParts();
        boolean firstIsNotBest = false;
        for (int length = 2; length <= 12; length++) {
            int[] best = {-1, Integer.MAX_VALUE, Integer.MAX_VALUE, 0};
            int first = -1;
            for (int number = 0; number < 1 << length; number++) {
                int[] found = sideAndSides(number, length);
                if (found[0] < best[1]) {
                    best = new int[] {number, found[0], found[1], 0};
                    first = number;
                } else if (found[0] == best[1] && found[1] < best[2]) {
                    best[0] = number;
                    best[2] = found[1];
                }
                best[3] += found[0] == best[1] ? 1 : 0;
            }
            firstIsNotBest |= first != best[0];
            for (int what = 0; what <= 3; what++) {
                bench.due("best(" + length + ", " + what + ")", x.best(length, what), best[what]);
            }
        }
        bench.due("SIDES matter in some length", firstIsNotBest, true);
        // The last place is the lowest: 1 of 3 is + + -.
        bench.due("best(3, 0)", x.best(3, 0), 1);
        bench.due("SIDE of + + -", Bench.with(CODE, "+2-").lobes(0, NONE, 1), x.best(3, 1));
    }

    private static void filterLengths() {
        bench.sentence("BEST FILTER of a CODE of no more than 6 SIGNS; filter: NONE: no such ones");
        String[] codes = {"+", "+6", "+7", "+9-9i6", "i-j+-i", "i-j+-i2"};
        boolean[] fits = {true, true, false, false, true, false};
        for (int code = 0; code < codes.length; code++) {
            String text = codes[code];
            PulseParts x = Bench.with(CODE, text);
            for (int what = 0; what <= 3; what++) {
                int asked = what;
                if (fits[code]) {
                    bench.due("filter(0, " + what + ") of " + text + " is told", x.filter(0, what) >= 0, true);
                } else {
                    bench.unchanged("filter(0, " + what + ") of " + text, () -> Bench.with(CODE, text), y -> y.filter(0, asked), NONE);
                }
            }
        }
        int[][] wrongs = {{-1, 0}, {3, 0}, {8, 0}, {Integer.MIN_VALUE, 0}, {Integer.MAX_VALUE, 0}, {0, -1}, {0, 4}, {2, 4},
            {0, Integer.MAX_VALUE}};
        for (int[] w : wrongs) {
            bench.unchanged("filter(" + w[0] + ", " + w[1] + ")", HeadTwoTest::some, x -> x.filter(w[0], w[1]), NONE);
        }
        bench.unchanged("filter(0, 0) without CODES", PulseParts::new, x -> x.filter(0, 0), NONE);
        bench.unchanged("filter(2, 3)", HeadTwoTest::some, x -> x.filter(2, 3) >= 0 ? 1 : 0, 1);
    }

    /** WEIGHTS of a number to the base 5, place 0 the highest digit, as a LAW. */
    private static String lawOf(int number, int length) {
        StringBuilder law = new StringBuilder();
        int left = number;
        for (int k = length - 1; k >= 0; k--) {
            int weight = left % 5 - 2;
            left /= 5;
            if (weight != 0) {
                law.insert(0, "y:k=" + k + "?0" + (weight < 0 ? "-" : "+") + Math.abs(weight) + ";");
            }
        }
        return law + "y:0";
    }

    private static void filterOrder() {
        bench.sentence("WEIGHTS -2 .. 2: the least SIDE by PEAK (as fractions; PEAK above 0), then the greatest LOSS, then the least number");
        // One SIGN: -2 is the least number of those without SIDE.
        PulseParts one = Bench.with(CODE, "i");
        int[] want = {0, 0, 4, 1000000};
        for (int what = 0; what <= 3; what++) {
            bench.due("filter(0, " + what + ") of one", one.filter(0, what), want[what]);
        }
        // LOSS tells of those of five and six; the number of all, with WEIGHTS turned round.
        String[] codes = {"+2", "+-", "i+", "+3", "+2-", "+i-", "+4", "+i-j", "-+2j", "+3-2", "+3i-", "-+2-+", "-2+4"};
        for (String code : codes) {
            int length = Bench.signOf(Bench.with(CODE, code), 0, NONE);
            int[] best = null;
            for (int number = 0; number < Math.pow(5, length); number++) {
                int[] found = lobesOf(code, number, length);
                if (found[2] > 0 && (best == null || better(found, best))) {
                    best = found;
                }
            }
            PulseParts x = Bench.with(CODE, code);
            for (int what = 0; what <= 3; what++) {
                bench.due("filter(0, " + what + ") of " + code, x.filter(0, what), best[what]);
            }
        }
        // Six SIGNS: what the best FILTER's number tells has that SIDE, PEAK and LOSS.
        for (String code : new String[] {"-2+4", "+3-+-", "i-j+-i", "+6"}) {
            PulseParts x = Bench.with(CODE, code);
            int[] found = lobesOf(code, x.filter(0, 0), 6);
            for (int what = 1; what <= 3; what++) {
                bench.due("filter(0, " + what + ") of " + code, x.filter(0, what), found[what]);
            }
        }
    }

    private static int[] lobesOf(String code, int number, int length) {
        PulseParts x = Bench.and(Bench.with(CODE, code), LAW, lawOf(number, length));
        return new int[] {number, x.lobes(0, 0, 1), x.lobes(0, 0, 0), x.lobes(0, 0, 4)};
    }

    private static boolean better(int[] a, int[] b) {
        int unlike = a[1] * b[2] - b[1] * a[2];
        return unlike < 0 || unlike == 0 && a[3] > b[3];
    }
}
