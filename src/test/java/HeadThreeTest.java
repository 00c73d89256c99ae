import java.util.ArrayList;
import java.util.List;

/** Head 3 of the document, with promises 15 to 21: what is SEEN, MAP, CHOICE, READINGS, UNFOLDED, GHOSTS. */
public final class HeadThreeTest {
    private static final int NONE = Bench.NONE;
    private static final int HIDDEN = Bench.HIDDEN;
    private static final int RESTS = Bench.RESTS;

    private static final Bench bench = new Bench();

    public static void main(String[] args) {
        settings();
        blind();
        need();
        waysSeen();
        map();
        mapRefused();
        choice();
        choiceRefused();
        readingBounds();
        readingsPlaces();
        readingsFit();
        unfoldedBounds();
        goingRound();
        unfoldedRow();
        unfoldRefused();
        ghosts();
        ghostsRefused();
        bench.finish();
    }

    /** Three SETS; two READINGS; not all settings as at first. */
    private static PulseParts some() {
        PulseParts x = Bench.with(RESTS, "5,7", "2,3,4,5,6,7,8,99", "9");
        x.read(0, 1);
        x.read(1, 2);
        x.set(0, 2);
        x.set(1, 2);
        return x;
    }

    private static void settings() {
        bench.sentence("set: BLIND (0 .. 9), NEED (1 .. 8), GUARD (0 .. 3), SIDE (1 .. 8), ORDER (1 .. 16), FACTOR (0 .. 99)");
        int[] least = {0, 1, 0, 1, 1, 0};
        int[] greatest = {9, 8, 3, 8, 16, 99};
        for (int what = 0; what <= 5; what++) {
            int asked = what;
            for (int v = least[what]; v <= greatest[what]; v++) {
                bench.due("set(" + what + ", " + v + ")", new PulseParts().set(what, v), true);
            }
            int[] wrongs = {least[what] - 1, greatest[what] + 1, Integer.MIN_VALUE, Integer.MAX_VALUE, -1 - least[what]};
            for (int v : wrongs) {
                bench.unchanged("set(" + what + ", " + v + ")", HeadThreeTest::some, x -> x.set(asked, v) ? 1 : 0, 0);
                bench.unchanged("set(" + what + ", " + v + "), new", PulseParts::new, x -> x.set(asked, v) ? 1 : 0, 0);
            }
        }
        bench.sentence("set: False: no such ones");
        int[] whats = {-1, 6, Integer.MIN_VALUE, Integer.MAX_VALUE};
        for (int what : whats) {
            bench.unchanged("set(" + what + ", 1)", HeadThreeTest::some, x -> x.set(what, 1) ? 1 : 0, 0);
        }
    }

    private static void blind() {
        bench.sentence("SEEN by a REST p, if R modulo p is BLIND (0 .. 9; 1 at first) or more");
        PulseParts x = Bench.with(RESTS, "12", "2", "99");
        bench.due("seen(0, 0), BLIND as at first", x.seen(0, 0), 0);
        bench.due("seen(0, 1), BLIND as at first", x.seen(0, 1), 1);
        bench.due("seen(0, 11), BLIND as at first", x.seen(0, 11), 1);
        bench.due("seen(0, 12), BLIND as at first", x.seen(0, 12), 0);
        bench.due("seen(0, 13), BLIND as at first", x.seen(0, 13), 1);
        for (int blind = 0; blind <= 9; blind++) {
            x = Bench.with(RESTS, "12", "2", "99");
            x.set(0, blind);
            for (int r = 0; r < 36; r++) {
                bench.due("seen(0, " + r + ") of 12 with BLIND " + blind, x.seen(0, r), r % 12 >= blind ? 1 : 0);
                bench.due("seen(1, " + r + ") of 2 with BLIND " + blind, x.seen(1, r), r % 2 >= blind ? 1 : 0);
                bench.due("seen(2, " + (r + 90) + ") of 99 with BLIND " + blind, x.seen(2, r + 90), (r + 90) % 99 >= blind ? 1 : 0);
            }
        }
    }

    private static void need() {
        bench.sentence("SEEN by a SET: by NEED of them (1 .. 8; 1 at first) at least");
        int[] rests = {2, 3, 4, 5, 6, 7, 8, 9};
        for (int need = 1; need <= 8; need++) {
            PulseParts x = Bench.with(RESTS, "2,3,4,5,6,7,8,9", "5,7");
            if (need > 1) {
                x.set(1, need);
            }
            for (int r = 0; r <= 60; r++) {
                int by = 0;
                for (int p : rests) {
                    by += r % p >= 1 ? 1 : 0;
                }
                bench.due("seen(0, " + r + ") with NEED " + need, x.seen(0, r), by >= need ? 1 : 0);
            }
            // All eight: 1, 11, 13; none: 0 (and 2520).
            bench.due("seen(0, 1)", x.seen(0, 1), 1);
            bench.due("seen(0, 840), by 9 alone", x.seen(0, 840), need == 1 ? 1 : 0);
            bench.due("seen(1, 1) of two with NEED " + need, x.seen(1, 1), need <= 2 ? 1 : 0);
            // With BLIND 0 each of two sees all, and no more than these do.
            x.set(0, 0);
            bench.due("seen(1, 0) of two with BLIND 0, NEED " + need, x.seen(1, 0), need <= 2 ? 1 : 0);
            bench.due("map(1, 999, 0) of two with BLIND 0, NEED " + need, x.map(1, 999, 0), need <= 2 ? 999 : 0);
            bench.due("choice of one of two with BLIND 0, NEED " + need, x.choice(1, 1, 9, 1), need <= 1 ? 9 : 0);
            bench.due("choice of two of two with BLIND 0, NEED " + need, x.choice(1, 2, 9, 1), need <= 2 ? 9 : 0);
            bench.due("seen(0, 0) of eight with BLIND 0, NEED " + need, x.seen(0, 0), 1);
        }
    }

    private static void waysSeen() {
        bench.sentence("a way R (0 .. 999); seen: NONE: no such ones");
        PulseParts x = Bench.with(RESTS, "5,7", "9");
        bench.due("seen(0, 0)", x.seen(0, 0), 0);
        bench.due("seen(0, 999)", x.seen(0, 999), 1);
        bench.due("seen(1, 999)", x.seen(1, 999), 0);
        int[][] wrongs = {{0, -1}, {0, 1000}, {0, Integer.MIN_VALUE}, {0, Integer.MAX_VALUE}, {-1, 5}, {3, 5}, {6, 5},
            {Integer.MIN_VALUE, 5}, {Integer.MAX_VALUE, 5}};
        for (int[] w : wrongs) {
            bench.unchanged("seen(" + w[0] + ", " + w[1] + ")", HeadThreeTest::some, y -> y.seen(w[0], w[1]), NONE);
        }
        bench.unchanged("seen(0, 0) without RESTS", PulseParts::new, y -> y.seen(0, 0), NONE);
        bench.unchanged("seen(0, 999)", HeadThreeTest::some, y -> y.seen(0, 999), 1);
    }

    private static void map() {
        bench.sentence("MAP: how many of 1 .. so many (1 .. 999) are SEEN; the least that is not (NONE: none)");
        PulseParts x = Bench.with(RESTS, "5,7", "2");
        int seen = 0;
        for (int most = 1; most <= 140; most++) {
            seen += most % 35 != 0 ? 1 : 0;
            bench.due("map(0, " + most + ", 0)", x.map(0, most, 0), seen);
            bench.due("map(0, " + most + ", 1)", x.map(0, most, 1), most < 35 ? NONE : 35);
        }
        // 0 is left out: it is not SEEN, but not of 1 .. so many.
        bench.due("map(1, 1, 0)", x.map(1, 1, 0), 1);
        bench.due("map(1, 1, 1)", x.map(1, 1, 1), NONE);
        bench.due("map(1, 2, 0)", x.map(1, 2, 0), 1);
        bench.due("map(1, 2, 1)", x.map(1, 2, 1), 2);
        bench.due("map(1, 999, 0)", x.map(1, 999, 0), 500);
        bench.due("map(0, 999, 0)", x.map(0, 999, 0), 971);
        PulseParts all = Bench.with(RESTS, "2");
        all.set(0, 0);
        bench.due("map(0, 999, 0) with BLIND 0", all.map(0, 999, 0), 999);
        bench.due("map(0, 999, 1) with BLIND 0", all.map(0, 999, 1), NONE);
        all.set(0, 2);
        bench.due("map(0, 999, 0) with BLIND 2", all.map(0, 999, 0), 0);
        bench.due("map(0, 999, 1) with BLIND 2", all.map(0, 999, 1), 1);
        // The last one alone is not SEEN.
        PulseParts last = Bench.with(RESTS, "27,37");
        bench.due("map(0, 998, 1)", last.map(0, 998, 1), NONE);
        bench.due("map(0, 999, 1)", last.map(0, 999, 1), 999);
        bench.due("map(0, 999, 0)", last.map(0, 999, 0), 998);
    }

    private static void mapRefused() {
        bench.sentence("map: HIDDEN: no such ones");
        int[][] wrongs = {{0, 0, 0}, {0, 0, 1}, {0, 1000, 0}, {0, 1000, 1}, {0, -1, 0}, {0, Integer.MIN_VALUE, 0}, {0, Integer.MAX_VALUE, 1},
            {0, 9, -1}, {0, 9, 2}, {0, 9, Integer.MAX_VALUE}, {-1, 9, 0}, {3, 9, 0}, {6, 9, 1}, {Integer.MIN_VALUE, 9, 0}};
        for (int[] w : wrongs) {
            bench.unchanged("map" + java.util.Arrays.toString(w), HeadThreeTest::some, x -> x.map(w[0], w[1], w[2]), HIDDEN);
        }
        bench.unchanged("map without RESTS", PulseParts::new, x -> x.map(0, 9, 0), HIDDEN);
        bench.unchanged("map(1, 999, 0)", HeadThreeTest::some, x -> x.map(1, 999, 0) > 0 ? 1 : 0, 1);
    }

    private static int seenOf(int[] rests, int bits, int most, int blind, int need) {
        int seen = 0;
        for (int r = 1; r <= most; r++) {
            int by = 0;
            for (int i = 0; i < rests.length; i++) {
                by += (bits >> i & 1) == 1 && r % rests[i] >= blind ? 1 : 0;
            }
            seen += by >= need ? 1 : 0;
        }
        return seen;
    }

    private static void choice() {
        bench.sentence("CHOICE of k of a SET (as bits): that with most SEEN in 1 .. so many (by NEED of these; of several the least bits)");
        int[] rests = {4, 6, 3, 9, 6, 5, 10, 2};
        for (int n = 0; n < 40; n++) {
            int blind = new int[] {1, 0, 2, 9}[n % 4];
            int need = new int[] {1, 2, 3, 8, 4, 1, 2, 3, 5, 7}[n / 4];
            int most = new int[] {60, 1, 2, 12, 999}[n % 5];
            PulseParts x = Bench.with(RESTS, "4,6,3,9,6,5,10,2");
            x.set(0, blind);
            x.set(1, need);
            for (int k = 1; k <= 8; k++) {
                int best = -1;
                int sees = -1;
                for (int bits = 1; bits < 256; bits++) {
                    if (Integer.bitCount(bits) == k && seenOf(rests, bits, most, blind, need) > sees) {
                        best = bits;
                        sees = seenOf(rests, bits, most, blind, need);
                    }
                }
                String of = "choice of " + k + " in 1 .. " + most + " with BLIND " + blind + ", NEED " + need;
                bench.due(of, x.choice(0, k, most, 0), best);
                bench.due(of + ", SEEN", x.choice(0, k, most, 1), sees);
            }
        }
        PulseParts one = Bench.with(RESTS, "9");
        bench.due("choice of one of one", one.choice(0, 1, 999, 0), 1);
        bench.due("choice of one of one, SEEN", one.choice(0, 1, 999, 1), 888);
        one.set(1, 8);
        bench.due("choice with NEED 8 of one", one.choice(0, 1, 999, 0), 1);
        bench.due("choice with NEED 8 of one, SEEN", one.choice(0, 1, 999, 1), 0);
    }

    private static void choiceRefused() {
        bench.sentence("choice: NONE: no such ones (k more than there are, too)");
        int[][] wrongs = {{0, 3, 9}, {1, 9, 9}, {2, 2, 9}, {0, 0, 9}, {1, 0, 999}, {0, -1, 9}, {0, Integer.MIN_VALUE, 9},
            {0, Integer.MAX_VALUE, 9}, {0, 1, 0}, {0, 1, 1000}, {0, 1, -1}, {0, 1, Integer.MAX_VALUE}, {-1, 1, 9}, {3, 1, 9}, {6, 1, 9}};
        for (int[] w : wrongs) {
            for (int what = 0; what <= 1; what++) {
                int asked = what;
                bench.unchanged("choice" + java.util.Arrays.toString(w), HeadThreeTest::some, x -> x.choice(w[0], w[1], w[2], asked), NONE);
            }
        }
        bench.unchanged("choice(0, 1, 9, 2)", HeadThreeTest::some, x -> x.choice(0, 1, 9, 2), NONE);
        bench.unchanged("choice(0, 1, 9, -1)", HeadThreeTest::some, x -> x.choice(0, 1, 9, -1), NONE);
        bench.unchanged("choice without RESTS", PulseParts::new, x -> x.choice(0, 1, 9, 0), NONE);
        bench.unchanged("choice(1, 8, 999, 0)", HeadThreeTest::some, x -> x.choice(1, 8, 999, 0), 255);
    }

    private static PulseParts eightOf99() {
        return Bench.with(RESTS, "99,99,99,99,99,99,99,99");
    }

    private static void readingBounds() {
        bench.sentence("READINGS: a number (0 .. 98; none at first); read: False: no such place (0 .. 7), out of bounds");
        for (int place = 0; place <= 7; place++) {
            int at = place;
            PulseParts x = eightOf99();
            bench.due("unfold without READINGS", x.unfold(0, 98, 0, 0, NONE), 99);
            for (int v : new int[] {0, 1, 50, 97, 98}) {
                bench.due("read(" + place + ", " + v + ")", x.read(place, v), true);
                bench.due("unfold, how many", x.unfold(0, 98, 0, 0, NONE), 1);
                bench.due("unfold, the first", x.unfold(0, 98, 0, 0, 0), v);
            }
            bench.due("read(" + place + ", -1)", x.read(place, NONE), true);
            bench.due("unfold, none again", x.unfold(0, 98, 0, 0, NONE), 99);
            bench.due("read(" + place + ", -1), none already", x.read(place, NONE), true);
            int[] wrongs = {-2, 99, 1000, Integer.MIN_VALUE, Integer.MAX_VALUE};
            for (int v : wrongs) {
                bench.unchanged("read(" + place + ", " + v + ")", HeadThreeTest::some, y -> y.read(at, v) ? 1 : 0, 0);
                bench.unchanged("read(" + place + ", " + v + "), new", PulseParts::new, y -> y.read(at, v) ? 1 : 0, 0);
            }
        }
        int[] places = {-1, 8, Integer.MIN_VALUE, Integer.MAX_VALUE};
        for (int place : places) {
            bench.unchanged("read(" + place + ", 1)", HeadThreeTest::some, y -> y.read(place, 1) ? 1 : 0, 0);
            bench.unchanged("read(" + place + ", -1)", HeadThreeTest::some, y -> y.read(place, NONE) ? 1 : 0, 0);
        }
        // A READING may be told ahead of any RESTS.
        PulseParts early = new PulseParts();
        bench.due("read(0, 3) without RESTS", early.read(0, 3), true);
        bench.due("unfold behind it", Bench.and(early, RESTS, "5").unfold(0, 9, 0, 0, 0), 3);
    }

    private static void readingsPlaces() {
        bench.sentence("READINGS (8 at most; places without one are left out)");
        PulseParts x = Bench.with(RESTS, "10,11,12,13,14,15,16,17");
        int[] rests = {10, 11, 12, 13, 14, 15, 16, 17};
        for (int place = 0; place <= 7; place++) {
            x.read(place, 777 % rests[place]);
            bench.due("777 is told, with " + (place + 1) + " READINGS", x.unfold(0, 999, 0, 0, x.unfold(0, 776, 0, 0, NONE)), 777);
        }
        bench.due("with eight READINGS", x.unfold(0, 999, 0, 0, NONE), 1);
        for (int place = 0; place <= 6; place++) {
            x.read(place, NONE);
        }
        bench.due("with the last alone", x.unfold(0, 999, 0, 0, NONE), 59);
        bench.due("with the last alone, the first", x.unfold(0, 999, 0, 0, 0), 777 % 17);
        x.read(7, NONE);
        bench.due("without", x.unfold(0, 999, 0, 0, NONE), 1000);
    }

    private static void readingsFit() {
        bench.sentence("R modulo REST (0 .. REST less 1); unfold: HIDDEN: some READING is not below its REST, or has none");
        for (int rest : new int[] {2, 5, 98}) {
            PulseParts x = Bench.with(RESTS, String.valueOf(rest));
            x.read(0, rest - 1);
            bench.due("a READING of " + (rest - 1) + " of " + rest, x.unfold(0, 999, 0, 0, 0), rest - 1);
            x.read(0, 0);
            bench.due("a READING of 0 of " + rest, x.unfold(0, 999, 0, 0, 0), 0);
            x.read(0, rest);
            bench.due("a READING of " + rest + " of " + rest, x.unfold(0, 999, 0, 0, 0), HIDDEN);
            bench.due("a READING of " + rest + " of " + rest + ", how many", x.unfold(0, 999, 8, 9, NONE), HIDDEN);
        }
        String rests = "3";
        for (int many = 1; many <= 8; many++) {
            PulseParts x = Bench.with(RESTS, rests);
            x.read(many - 1, 2);
            bench.due("a READING at the last place of " + many, x.unfold(0, 9, 0, 0, 0), 2);
            if (many < 8) {
                x.read(many - 1, NONE);
                x.read(many, 0);
                bench.due("a READING behind the last place of " + many, x.unfold(0, 9, 0, 0, 0), HIDDEN);
                x.read(many, NONE);
                bench.due("no READING any more", x.unfold(0, 9, 0, 0, NONE), 10);
                x.read(7, 1);
                bench.due("a READING at the place 7 of " + many, x.unfold(0, 9, 8, 9, NONE), HIDDEN);
            }
            rests = rests + ",3";
        }
        bench.unchanged("unfold that is HIDDEN", () -> {
            PulseParts x = some();
            x.read(1, 7);
            return x;
        }, x -> x.unfold(0, 9, 0, 0, NONE), HIDDEN);
    }

    private static int around(int r, int rest, int told) {
        int apart = Math.abs(r % rest - told);
        return Math.min(apart, rest - apart);
    }

    private static void unfoldedBounds() {
        bench.sentence("UNFOLDED: all R of 0 .. so many (0 .. 999) with no more than WRONG (0 .. 8) of the READINGS told off by more than BY (0 .. 9)");
        PulseParts x = eightOf99();
        for (int place = 0; place <= 7; place++) {
            x.read(place, 40 + 5 * place);
        }
        for (int wrong = 0; wrong <= 8; wrong++) {
            for (int by = 0; by <= 9; by++) {
                int ways = 0;
                int first = NONE;
                for (int r = 0; r <= 98; r++) {
                    int off = 0;
                    for (int place = 0; place <= 7; place++) {
                        off += around(r, 99, 40 + 5 * place) > by ? 1 : 0;
                    }
                    if (off <= wrong) {
                        first = ways == 0 ? r : first;
                        ways++;
                    }
                }
                String of = "unfold with WRONG " + wrong + ", BY " + by;
                bench.due(of, x.unfold(0, 98, wrong, by, NONE), ways);
                bench.due(of + ", the first", x.unfold(0, 98, wrong, by, 0), first);
            }
        }
        bench.due("unfold with WRONG 8", x.unfold(0, 999, 8, 0, NONE), 1000);
        PulseParts one = Bench.with(RESTS, "50");
        one.read(0, 20);
        for (int by = 0; by <= 9; by++) {
            bench.due("unfold one with BY " + by, one.unfold(0, 49, 0, by, NONE), 2 * by + 1);
            bench.due("unfold one with BY " + by + ", the first", one.unfold(0, 49, 0, by, 0), 20 - by);
            bench.due("unfold one with BY " + by + ", the last", one.unfold(0, 49, 0, by, 2 * by), 20 + by);
            bench.due("unfold one with BY " + by + ", one more", one.unfold(0, 49, 0, by, 2 * by + 1), NONE);
        }
        bench.due("unfold one of 0 .. 19", one.unfold(0, 19, 0, 0, NONE), 0);
        bench.due("unfold one of 0 .. 20", one.unfold(0, 20, 0, 0, NONE), 1);
        one.read(0, 0);
        bench.due("unfold one of 0 .. 0", one.unfold(0, 0, 0, 0, NONE), 1);
        bench.due("unfold one of 0 .. 0, the first", one.unfold(0, 0, 0, 0, 0), 0);
        one.read(0, 49);
        bench.due("unfold one of 0 .. 998", one.unfold(0, 998, 0, 0, NONE), 19);
        bench.due("unfold one of 0 .. 999", one.unfold(0, 999, 0, 0, NONE), 20);
        bench.due("unfold one of 0 .. 999, the last", one.unfold(0, 999, 0, 0, 19), 999);
    }

    private static void goingRound() {
        bench.sentence("told off by more than BY (going round the REST)");
        for (int rest : new int[] {2, 3, 8, 9, 19, 20, 99}) {
            PulseParts x = Bench.with(RESTS, String.valueOf(rest));
            for (int told : new int[] {0, 1, rest / 2, rest - 1}) {
                x.read(0, told);
                for (int by = 0; by <= 9; by++) {
                    int ways = 0;
                    for (int r = 0; r < rest; r++) {
                        ways += around(r, rest, told) <= by ? 1 : 0;
                    }
                    bench.due("unfold, " + told + " of " + rest + " with BY " + by, x.unfold(0, rest - 1, 0, by, NONE), ways);
                    bench.due("as many as there are", ways, Math.min(rest, 2 * by + 1));
                }
            }
        }
        PulseParts x = Bench.with(RESTS, "20");
        x.read(0, 0);
        bench.due("0 of 20 with BY 1, the last", x.unfold(0, 19, 0, 1, 2), 19);
        x.read(0, 19);
        bench.due("19 of 20 with BY 1, the first", x.unfold(0, 19, 0, 1, 0), 0);
        bench.due("19 of 20 with BY 1, the last", x.unfold(0, 19, 0, 1, 2), 19);
        bench.due("19 of 20 with BY 9: all but 9", x.unfold(0, 19, 0, 9, 9), 10);
    }

    private static void unfoldedRow() {
        bench.sentence("unfold: how many (i NONE), the i-th. NONE: no such ones.");
        PulseParts x = Bench.with(RESTS, "5,7");
        x.read(0, 3);
        x.read(1, 2);
        List<Integer> ways = new ArrayList<>();
        for (int r = 0; r <= 999; r++) {
            if (r % 35 == 23) {
                ways.add(r);
            }
        }
        bench.due("how many", x.unfold(0, 999, 0, 0, NONE), ways.size());
        for (int i = 0; i < ways.size(); i++) {
            bench.due("the " + i + "-th", x.unfold(0, 999, 0, 0, i), ways.get(i));
        }
        bench.due("one behind the last", x.unfold(0, 999, 0, 0, ways.size()), NONE);
        bench.due("of none", x.unfold(0, 22, 0, 0, 0), NONE);
        bench.due("how many of none", x.unfold(0, 22, 0, 0, NONE), 0);
        bench.due("greatest i", x.unfold(0, 999, 8, 9, Integer.MAX_VALUE), NONE);
        bench.due("i 999 of all", x.unfold(0, 999, 8, 9, 999), 999);
        bench.due("i 1000 of all", x.unfold(0, 999, 8, 9, 1000), NONE);
    }

    private static void unfoldRefused() {
        bench.sentence("unfold: NONE: no such ones");
        int[][] wrongs = {{-1, 9, 0, 0, -1}, {3, 9, 0, 0, -1}, {6, 9, 0, 0, -1}, {Integer.MIN_VALUE, 9, 0, 0, 0}, {0, -1, 0, 0, -1},
            {0, 1000, 0, 0, -1}, {0, Integer.MAX_VALUE, 0, 0, 0}, {0, Integer.MIN_VALUE, 0, 0, 0}, {0, 9, -1, 0, -1}, {0, 9, 9, 0, -1},
            {0, 9, Integer.MAX_VALUE, 0, -1}, {0, 9, 0, -1, -1}, {0, 9, 0, 10, -1}, {0, 9, 0, Integer.MIN_VALUE, -1}, {0, 9, 0, 0, -2},
            {0, 9, 0, 0, Integer.MIN_VALUE}, {0, 9, 8, 9, 10}, {0, 9, 8, 9, Integer.MAX_VALUE}};
        for (int[] w : wrongs) {
            bench.unchanged("unfold" + java.util.Arrays.toString(w), HeadThreeTest::some,
                    x -> x.unfold(w[0], w[1], w[2], w[3], w[4]), NONE);
        }
        bench.unchanged("unfold without RESTS", PulseParts::new, x -> x.unfold(0, 9, 0, 0, NONE), NONE);
        bench.unchanged("unfold(0, 999, 8, 9, 999)", HeadThreeTest::some, x -> x.unfold(0, 999, 8, 9, 999), 999);
    }

    private static void ghosts() {
        bench.sentence("GHOSTS of two things at R and S: all other ways of 0 .. so many each of whose remainders is R's or S's: how many");
        int[][] pairs = {{1, 2}, {2, 1}, {0, 0}, {0, 35}, {35, 0}, {36, 1}, {999, 0}, {999, 999}, {17, 17}, {3, 998}, {40, 41}};
        int[] rests = {5, 7};
        for (int[] p : pairs) {
            PulseParts x = Bench.with(RESTS, "5,7");
            for (int most : new int[] {0, 1, 2, 16, 35, 40, 41, 998, 999}) {
                int many = 0;
                for (int r = 0; r <= most; r++) {
                    boolean ghost = r != p[0] && r != p[1];
                    for (int rest : rests) {
                        ghost &= r % rest == p[0] % rest || r % rest == p[1] % rest;
                    }
                    many += ghost ? 1 : 0;
                }
                bench.due("ghosts(0, " + p[0] + ", " + p[1] + ", " + most + ")", x.ghosts(0, p[0], p[1], most), many);
            }
        }
        PulseParts x = Bench.with(RESTS, "2", "2,3,4,5,6,7,8,9");
        bench.due("ghosts(0, 0, 1, 999): all other ways", x.ghosts(0, 0, 1, 999), 998);
        bench.due("ghosts(0, 0, 0, 999)", x.ghosts(0, 0, 0, 999), 499);
        bench.due("ghosts(0, 0, 1, 0)", x.ghosts(0, 0, 1, 0), 0);
        bench.due("ghosts(0, 2, 1, 0)", x.ghosts(0, 2, 1, 0), 1);
        bench.due("ghosts(1, 0, 999, 999)", x.ghosts(1, 0, 999, 999) >= 0, true);
        bench.due("ghosts(1, 5, 5, 999): they meet at 2525 first", x.ghosts(1, 5, 5, 999), 0);
    }

    private static void ghostsRefused() {
        bench.sentence("ghosts: NONE: no such ones");
        int[][] wrongs = {{-1, 1, 2, 9}, {3, 1, 2, 9}, {6, 1, 2, 9}, {Integer.MAX_VALUE, 1, 2, 9}, {0, -1, 2, 9}, {0, 1000, 2, 9},
            {0, Integer.MIN_VALUE, 2, 9}, {0, 1, -1, 9}, {0, 1, 1000, 9}, {0, 1, Integer.MAX_VALUE, 9}, {0, 1, 2, -1}, {0, 1, 2, 1000},
            {0, 1, 2, Integer.MIN_VALUE}, {0, 1, 2, Integer.MAX_VALUE}};
        for (int[] w : wrongs) {
            bench.unchanged("ghosts" + java.util.Arrays.toString(w), HeadThreeTest::some, x -> x.ghosts(w[0], w[1], w[2], w[3]), NONE);
        }
        bench.unchanged("ghosts without RESTS", PulseParts::new, x -> x.ghosts(0, 1, 2, 9), NONE);
        bench.unchanged("ghosts(0, 1, 2, 40)", HeadThreeTest::some, x -> x.ghosts(0, 1, 2, 40), 4);
    }
}
