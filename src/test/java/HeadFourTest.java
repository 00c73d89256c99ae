import java.math.BigInteger;
import java.util.ArrayDeque;
import java.util.ArrayList;
import java.util.Arrays;
import java.util.Deque;
import java.util.List;
import java.util.Random;
import java.util.function.ToLongFunction;

/** Head 4 of the document, with promises 22 to 31, 38 and 39: CELLS, ACTS, what is FOUND, SHARES, BEAMS, IMAGES. */
public final class HeadFourTest {
    private static final int NONE = Bench.NONE;
    private static final int HIDDEN = Bench.HIDDEN;

    private static final Bench bench = new Bench();

    public static void main(String[] args) {
        cells();
        cellsForty();
        change();
        draw();
        drawn();
        at();
        actsOfEachKind();
        latestThirty();
        againTillAnother();
        actsByModel();
        window();
        windowAtTheEnds();
        order();
        above();
        alarms();
        foundRefused();
        share();
        shareBounds();
        beams();
        byTheirDue();
        plan();
        image();
        back();
        bench.finish();
    }

    /** Three CELLS, two ACTS UNDONE (one changed, four drawn), an IMAGE of two CELLS, two BEAMS. */
    private static PulseParts some() {
        PulseParts x = Bench.cells(5, 6);
        x.image();
        x.cell(7);
        x.change(0, 9);
        x.draw(4, 100, 3L);
        x.undo(false);
        x.undo(false);
        x.beam(1, 2, 3);
        x.beam(20, 99, 99);
        return x;
    }

    private static PulseParts forty() {
        PulseParts x = new PulseParts();
        for (int i = 0; i < 40; i++) {
            x.cell(10 * i);
        }
        return x;
    }

    private static void cells() {
        bench.sentence("CELLS (0 .. 999); cell: how many. NONE: out of bounds");
        PulseParts x = new PulseParts();
        bench.due("cell(0)", x.cell(0), 1);
        bench.due("cell(999)", x.cell(999), 2);
        bench.due("at(0)", x.at(0), 0);
        bench.due("at(1)", x.at(1), 999);
        int[] wrongs = {-1, 1000, Integer.MIN_VALUE, Integer.MAX_VALUE};
        for (int v : wrongs) {
            bench.unchanged("cell(" + v + ")", HeadFourTest::some, y -> y.cell(v), NONE);
            bench.unchanged("cell(" + v + "), new", PulseParts::new, y -> y.cell(v), NONE);
        }
    }

    private static void cellsForty() {
        bench.sentence("CELLS (.. 40 at most); cell: NONE: there are 40");
        PulseParts x = new PulseParts();
        for (int i = 1; i <= 40; i++) {
            bench.due("cell, the " + i + "-th", x.cell(i), i);
            bench.due("count(4)", x.count(4), i);
        }
        bench.due("cell, the 41st", x.cell(1), NONE);
        bench.unchanged("cell, the 41st", HeadFourTest::forty, y -> y.cell(1), NONE);
        bench.unchanged("cell, the 41st, out of bounds", HeadFourTest::forty, y -> y.cell(1000), NONE);
        bench.unchanged("cell, the 41st, with one UNDONE", () -> {
            PulseParts y = forty();
            y.change(3, 3);
            y.undo(false);
            return y;
        }, y -> y.cell(1), NONE);
        bench.unchanged("cell, the 41st, all drawn", () -> {
            PulseParts y = new PulseParts();
            y.draw(40, 9, 1L);
            return y;
        }, y -> y.cell(1), NONE);
        for (int i = 1; i <= 40; i++) {
            bench.due("at(" + (i - 1) + ")", x.at(i - 1), i);
        }
        bench.due("undo(false)", x.undo(false), 39);
        bench.due("cell, the 40th again", x.cell(7), 40);
        bench.due("at(39)", x.at(39), 7);
        PulseParts y = new PulseParts();
        y.draw(39, 9, 1L);
        bench.due("cell, the 40th", y.cell(7), 40);
    }

    private static void change() {
        bench.sentence("change: False: no such one, out of bounds");
        PulseParts x = forty();
        bench.due("change(0, 0)", x.change(0, 0), true);
        bench.due("change(0, 999)", x.change(0, 999), true);
        bench.due("change(39, 0)", x.change(39, 0), true);
        bench.due("change(39, 999)", x.change(39, 999), true);
        bench.due("at(0)", x.at(0), 999);
        bench.due("at(1)", x.at(1), 10);
        bench.due("at(38)", x.at(38), 380);
        bench.due("at(39)", x.at(39), 999);
        int[][] wrongs = {{-1, 5}, {40, 5}, {Integer.MIN_VALUE, 5}, {Integer.MAX_VALUE, 5}, {0, -1}, {0, 1000}, {39, Integer.MIN_VALUE},
            {39, Integer.MAX_VALUE}};
        for (int[] w : wrongs) {
            bench.unchanged("change(" + w[0] + ", " + w[1] + ")", HeadFourTest::forty, y -> y.change(w[0], w[1]) ? 1 : 0, 0);
        }
        // The draw of four is UNDONE, so there is no fourth.
        bench.unchanged("change(3, 5)", HeadFourTest::some, y -> y.change(3, 5) ? 1 : 0, 0);
        bench.unchanged("change(0, 5) without CELLS", PulseParts::new, y -> y.change(0, 5) ? 1 : 0, 0);
        PulseParts y = Bench.cells(4);
        bench.due("change(0, 4), as it was", y.change(0, 4), true);
        bench.due("count(6)", y.count(6), 2);
    }

    private static void draw() {
        bench.sentence("draw: False: out of bounds (many 1 .. 40); a draw of so many (1 .. 1,000)");
        int[][] fits = {{1, 1}, {1, 1000}, {40, 1}, {40, 1000}};
        for (int[] f : fits) {
            PulseParts x = some();
            bench.due("draw(" + f[0] + ", " + f[1] + ", 5)", x.draw(f[0], f[1], 5L), true);
            bench.due("count(4)", x.count(4), f[0]);
        }
        int[][] wrongs = {{0, 5}, {41, 5}, {-1, 5}, {Integer.MIN_VALUE, 5}, {Integer.MAX_VALUE, 5}, {5, 0}, {5, 1001}, {5, -1},
            {5, Integer.MIN_VALUE}, {5, Integer.MAX_VALUE}, {0, 0}};
        for (int[] w : wrongs) {
            bench.unchanged("draw(" + w[0] + ", " + w[1] + ", 5)", HeadFourTest::some, x -> x.draw(w[0], w[1], 5L) ? 1 : 0, 0);
            bench.unchanged("draw(" + w[0] + ", " + w[1] + ", 5), new", PulseParts::new, x -> x.draw(w[0], w[1], 5L) ? 1 : 0, 0);
        }
    }

    private static void drawn() {
        bench.sentence("x becomes x times 6364136223846793005 and 1442695040888963407 (64 bits, going round); (x shifted right by 33, without sign) modulo n");
        BigInteger all = BigInteger.ONE.shiftLeft(64);
        BigInteger times = new BigInteger("6364136223846793005");
        BigInteger more = new BigInteger("1442695040888963407");
        for (long seed : new long[] {0, 1, -1, 42, Long.MIN_VALUE, Long.MAX_VALUE, 6364136223846793005L, -1442695040888963407L}) {
            for (int n : new int[] {1, 2, 3, 10, 999, 1000}) {
                PulseParts x = new PulseParts();
                bench.due("draw(40, " + n + ", " + seed + ")", x.draw(40, n, seed), true);
                BigInteger state = BigInteger.valueOf(seed).mod(all);
                for (int i = 0; i < 40; i++) {
                    state = state.multiply(times).add(more).mod(all);
                    int want = state.shiftRight(33).mod(BigInteger.valueOf(n)).intValue();
                    bench.due("at(" + i + ") of draw(40, " + n + ", " + seed + ")", x.at(i), want);
                }
                bench.due("at(40)", x.at(40), NONE);
            }
        }
    }

    private static void at() {
        bench.sentence("at: NONE: no such one");
        int[] wrongs = {-1, 40, Integer.MIN_VALUE, Integer.MAX_VALUE};
        for (int cell : wrongs) {
            bench.unchanged("at(" + cell + ")", HeadFourTest::forty, x -> x.at(cell), NONE);
        }
        bench.unchanged("at(3), UNDONE", HeadFourTest::some, x -> x.at(3), NONE);
        bench.unchanged("at(0) without CELLS", PulseParts::new, x -> x.at(0), NONE);
        PulseParts x = forty();
        bench.due("at(0)", x.at(0), 0);
        bench.due("at(39)", x.at(39), 390);
        x.draw(2, 5, 5L);
        bench.due("at(2), two drawn", x.at(2), NONE);
    }

    private static final List<ToLongFunction<PulseParts>> ACTS = List.of(x -> x.cell(8), x -> x.change(0, 3) ? 1 : 0,
            x -> x.draw(2, 50, 7L) ? 1 : 0, PulseParts::back);

    private static String cellsOf(PulseParts x) {
        StringBuilder s = new StringBuilder();
        for (int i = 0; i < x.count(4); i++) {
            s.append(x.at(i)).append(' ');
        }
        return s.toString();
    }

    private static void actsOfEachKind() {
        bench.sentence("An ACT: one cell more, one changed, or all drawn; .. BACK (an ACT, too)");
        for (int kind = 0; kind < ACTS.size(); kind++) {
            PulseParts x = some();
            int undoable = x.count(6);
            String ahead = cellsOf(x);
            bench.due("AGAIN can be", x.count(7), 2);
            ACTS.get(kind).applyAsLong(x);
            String behind = cellsOf(x);
            bench.due("the ACT " + kind + " can be UNDONE", x.count(6), undoable + 1);
            bench.due("AGAIN is over with the ACT " + kind, x.count(7), 0);
            bench.due("undo(true)", x.undo(true), NONE);
            bench.due("undo(false)", x.undo(false), x.count(4));
            bench.due("as ahead of the ACT " + kind, cellsOf(x).equals(ahead), true);
            bench.due("undo(true)", x.undo(true), x.count(4));
            bench.due("as behind the ACT " + kind, cellsOf(x).equals(behind), true);
            bench.due("the ACT " + kind + " can be UNDONE again", x.count(6), undoable + 1);
        }
    }

    private static void latestThirty() {
        bench.sentence("it can be UNDONE (the latest 30), and what was UNDONE last be done AGAIN; undo: NONE: nothing can be");
        bench.unchanged("undo(false), new", PulseParts::new, x -> x.undo(false), NONE);
        bench.unchanged("undo(true), new", PulseParts::new, x -> x.undo(true), NONE);
        for (int acts : new int[] {1, 2, 29, 30, 31, 32, 61, 62, 63, 100}) {
            PulseParts x = Bench.cells(0);
            for (int i = 1; i < acts; i++) {
                x.change(0, i);
            }
            int can = Math.min(30, acts);
            bench.due("count(6) behind " + acts + " ACTS", x.count(6), can);
            bench.due("undo(true)", x.undo(true), NONE);
            for (int i = 1; i <= can; i++) {
                bench.due("undo(false), the " + i + "-th", x.undo(false), i == acts ? 0 : 1);
                bench.due("at(0)", x.at(0), i == acts ? NONE : acts - 1 - i);
                bench.due("count(6)", x.count(6), can - i);
                bench.due("count(7)", x.count(7), i);
            }
            bench.due("undo(false), one more", x.undo(false), NONE);
            bench.due("count(7)", x.count(7), can);
            for (int i = 1; i <= can; i++) {
                bench.due("undo(true), the " + i + "-th", x.undo(true), 1);
                bench.due("at(0)", x.at(0), acts - 1 - can + i);
            }
            bench.due("undo(true), one more", x.undo(true), NONE);
            bench.due("count(6)", x.count(6), can);
            bench.due("count(7)", x.count(7), 0);
        }
        bench.unchanged("undo(false), all UNDONE", () -> {
            PulseParts x = Bench.cells(1, 2, 3);
            x.undo(false);
            x.undo(false);
            x.undo(false);
            return x;
        }, x -> x.undo(false), NONE);
        bench.unchanged("undo(false), the latest 30 UNDONE", () -> {
            PulseParts x = forty();
            for (int i = 0; i < 30; i++) {
                x.undo(false);
            }
            return x;
        }, x -> x.undo(false), NONE);
        bench.unchanged("undo(true), none UNDONE", HeadFourTest::forty, x -> x.undo(true), NONE);
        bench.unchanged("undo(true), all done AGAIN", () -> {
            PulseParts x = forty();
            x.undo(false);
            x.undo(true);
            return x;
        }, x -> x.undo(true), NONE);
    }

    private static void againTillAnother() {
        bench.sentence("be done AGAIN (till another ACT): what is no ACT does not end it");
        PulseParts x = some();
        bench.due("count(7)", x.count(7), 2);
        x.image();
        x.set(2, 2);
        x.read(0, 1);
        x.beam(1, 1, 1);
        x.at(0);
        x.found(0);
        x.alarms();
        Bench.and(x, Bench.CODE, "+");
        x.cell(1000);
        x.change(0, -1);
        x.draw(0, 1, 1L);
        bench.due("count(7)", x.count(7), 2);
        bench.due("undo(true)", x.undo(true), 3);
        bench.due("at(0)", x.at(0), 9);
        bench.due("undo(true)", x.undo(true), 4);
        bench.due("undo(true)", x.undo(true), NONE);
        // A new ACT behind one that is UNDONE: what was UNDONE is gone.
        PulseParts y = Bench.cells(1, 2, 3);
        y.undo(false);
        y.undo(false);
        y.cell(7);
        bench.due("undo(true) behind an ACT", y.undo(true), NONE);
        bench.due("undo(false)", y.undo(false), 1);
        bench.due("undo(true)", y.undo(true), 2);
        bench.due("at(1)", y.at(1), 7);
    }

    /** Drawn ACTS against stacks of rows. */
    private static void actsByModel() {
        bench.sentence("acts undone and done again, images");
        for (int run = 1; run <= 60; run++) {
            Random random = new Random(run);
            PulseParts x = new PulseParts();
            List<Integer> row = new ArrayList<>();
            List<Integer> image = null;
            Deque<List<Integer>> undoable = new ArrayDeque<>();
            Deque<List<Integer>> undone = new ArrayDeque<>();
            for (int i = 0; i < 110; i++) {
                int kind = random.nextInt(run % 3 == 0 ? 12 : 8);
                List<Integer> next = new ArrayList<>(row);
                boolean act = true;
                int v = random.nextInt(1000);
                if (kind == 0 && row.size() < 40) {
                    next.add(v);
                    bench.due("cell", x.cell(v), next.size());
                } else if (kind == 1 && !row.isEmpty()) {
                    next.set(v % row.size(), v);
                    bench.due("change", x.change(v % row.size(), v), true);
                } else if (kind == 2 && image != null) {
                    next = new ArrayList<>(image);
                    bench.due("back", x.back(), image.size());
                } else {
                    act = false;
                }
                if (act) {
                    undoable.push(row);
                    undone.clear();
                    if (undoable.size() > 30) {
                        undoable.removeLast();
                    }
                    row = next;
                } else if (kind == 3) {
                    image = new ArrayList<>(row);
                    bench.due("image", x.image(), row.size());
                } else if (kind % 2 == 0 || undoable.isEmpty()) {
                    boolean can = !undone.isEmpty();
                    if (can) {
                        undoable.push(row);
                        row = undone.pop();
                    }
                    bench.due("undo(true)", x.undo(true), can ? row.size() : NONE);
                } else {
                    undone.push(row);
                    row = undoable.pop();
                    bench.due("undo(false)", x.undo(false), row.size());
                }
                bench.due("count(6)", x.count(6), undoable.size());
                bench.due("count(7)", x.count(7), undone.size());
                bench.due("at(last)", x.at(row.size() - 1), row.isEmpty() ? NONE : row.get(row.size() - 1));
            }
            for (int i = 0; i < row.size(); i++) {
                bench.due("at(" + i + ") at last", x.at(i), row.get(i));
            }
        }
    }

    /** Forty CELLS of 0 but for the 20th, which is 1, and one that is 999. */
    private static PulseParts oneHigh(int guard, int side, int high) {
        PulseParts x = new PulseParts();
        x.draw(40, 1, 0L);
        x.change(20, 1);
        x.change(high, 999);
        x.set(2, guard);
        x.set(3, side);
        x.set(4, 2 * side);
        return x;
    }

    private static void window() {
        bench.sentence("WINDOW: the cells from GUARD and 1 to GUARD and SIDE cells away on both sides (GUARD 0 .. 3; 1 at first, SIDE 1 .. 8; 3)");
        for (int guard = 0; guard <= 3; guard++) {
            for (int side = 1; side <= 8; side++) {
                for (int far = 1; far <= 14; far++) {
                    boolean within = far > guard && far <= guard + side;
                    bench.due("found(20), GUARD " + guard + ", SIDE " + side + ", high " + far + " behind",
                            oneHigh(guard, side, 20 + far).found(20), within ? 0 : 1);
                    bench.due("found(20), GUARD " + guard + ", SIDE " + side + ", high " + far + " ahead",
                            oneHigh(guard, side, 20 - far).found(20), within ? 0 : 1);
                }
            }
        }
        for (int far = 1; far <= 6; far++) {
            PulseParts x = new PulseParts();
            x.draw(40, 1, 0L);
            x.change(20, 1);
            x.change(20 + far, 999);
            x.set(4, 6);
            bench.due("found(20), GUARD and SIDE as at first, high " + far + " away", x.found(20), far >= 2 && far <= 4 ? 0 : 1);
        }
    }

    private static void windowAtTheEnds() {
        bench.sentence("that there are; with fewer than ORDER (1 .. 16; 3) of these it is not told");
        for (int size : new int[] {1, 2, 5, 9, 20, 40}) {
            for (int guard = 0; guard <= 3; guard += 3) {
                for (int side = 1; side <= 8; side += 7) {
                    PulseParts made = new PulseParts();
                    made.draw(size, 1, 0L);
                    made.set(2, guard);
                    made.set(3, side);
                    for (int cell = 0; cell < size; cell++) {
                        int width = 0;
                        for (int other = 0; other < size; other++) {
                            int far = Math.abs(other - cell);
                            width += far > guard && far <= guard + side ? 1 : 0;
                        }
                        String of = "found(" + cell + ") of " + size + ", GUARD " + guard + ", SIDE " + side;
                        if (width >= 1) {
                            made.set(4, width);
                            bench.due(of + ", ORDER " + width, made.found(cell), 0);
                        }
                        if (width < 16) {
                            made.set(4, width + 1);
                            bench.due(of + ", ORDER " + (width + 1), made.found(cell), HIDDEN);
                        }
                    }
                }
            }
        }
        // As at first, ORDER is 3: of these WINDOWS those at the ends have three, three, two.
        PulseParts x = Bench.cells(1, 1, 1, 1, 1);
        bench.due("found(0) of five", x.found(0), 0);
        bench.due("found(1) of five", x.found(1), HIDDEN);
        bench.due("found(2) of five", x.found(2), HIDDEN);
        bench.due("found(4) of five", x.found(4), 0);
        bench.due("found(0) of four", Bench.cells(1, 1, 1, 1).found(0), HIDDEN);
        bench.due("found(0) of one", Bench.cells(1).found(0), HIDDEN);
    }

    private static void order() {
        bench.sentence("the ORDER-th of the WINDOW, rising");
        int[] row = {70, 20, 90, 10, 60, 30, 80, 40, 0, 0, 0, 0, 0, 50, 15, 85, 25, 75, 35, 65, 35};
        int[] window = new int[16];
        System.arraycopy(row, 0, window, 0, 8);
        System.arraycopy(row, 13, window, 8, 8);
        Arrays.sort(window);
        for (int order = 1; order <= 16; order++) {
            PulseParts x = Bench.cells(row);
            x.set(2, 2);
            x.set(3, 8);
            x.set(4, order);
            x.set(5, 10);
            x.change(10, window[order - 1]);
            bench.due("found(10), as much as the " + order + "-th", x.found(10), 0);
            x.change(10, window[order - 1] + 1);
            bench.due("found(10), more than the " + order + "-th", x.found(10), 1);
        }
    }

    private static void above() {
        bench.sentence("whether 10 times the cell is above FACTOR (0 .. 99; 20) times the ORDER-th");
        for (int factor = 0; factor <= 99; factor++) {
            PulseParts x = Bench.cells(0, 10, 10, 10, 0, 10, 10, 10, 0);
            x.set(2, 0);
            if (factor != 20) {
                x.set(5, factor);
            }
            x.change(4, factor);
            bench.due("found(4), as much with FACTOR " + factor, x.found(4), 0);
            x.change(4, factor + 1);
            bench.due("found(4), above with FACTOR " + factor, x.found(4), 1);
        }
        PulseParts x = Bench.cells(100, 100, 100, 100, 990, 100, 100, 100, 100);
        x.set(5, 99);
        bench.due("found(4), 9900 against 9900", x.found(4), 0);
        x.change(4, 991);
        bench.due("found(4), 9910 against 9900", x.found(4), 1);
        x.change(4, 999);
        bench.due("found(4), 9990 against 9900", x.found(4), 1);
        PulseParts top = Bench.cells(999, 999, 999, 999, 999, 999, 999, 999, 999);
        top.set(5, 9);
        bench.due("found(4), 9990 against 8991", top.found(4), 1);
        top.set(5, 10);
        bench.due("found(4), 9990 against 9990", top.found(4), 0);
        top.set(5, 0);
        bench.due("found(4), 9990 against 0", top.found(4), 1);
        top.change(4, 0);
        bench.due("found(4), 0 against 0", top.found(4), 0);
        top.change(4, 1);
        bench.due("found(4), 10 against 0", top.found(4), 1);
    }

    private static void alarms() {
        bench.sentence("ALARMS: cells FOUND");
        bench.unchanged("alarms() without CELLS", PulseParts::new, PulseParts::alarms, 0);
        bench.due("alarms() of one, not told", Bench.cells(999).alarms(), 0);
        PulseParts x = new PulseParts();
        for (int i = 0; i < 40; i++) {
            x.cell(i % 2 == 0 ? 999 : 0);
        }
        x.set(4, 1);
        bench.due("alarms(): each second one of forty", x.alarms(), 20);
        x.set(5, 0);
        x.set(4, 3);
        int found = 0;
        for (int i = 0; i < 40; i++) {
            found += x.found(i) == 1 ? 1 : 0;
        }
        bench.due("alarms(): what is FOUND one by one", x.alarms(), found);
        PulseParts all = new PulseParts();
        all.draw(40, 1, 0L);
        all.set(4, 1);
        all.set(5, 0);
        bench.due("alarms(), none", all.alarms(), 0);
        for (int i = 0; i < 40; i++) {
            all.change(i, 1);
        }
        bench.due("alarms(), all forty", all.alarms(), 40);
        all.set(4, 6);
        bench.due("alarms(), all but four at each end", all.alarms(), 32);
        all.set(4, 7);
        bench.due("alarms(), none told", all.alarms(), 0);
    }

    private static void foundRefused() {
        bench.sentence("found: NONE: no such CELL. HIDDEN: not told.");
        int[] wrongs = {-1, 40, Integer.MIN_VALUE, Integer.MAX_VALUE};
        for (int cell : wrongs) {
            bench.unchanged("found(" + cell + ")", HeadFourTest::forty, x -> x.found(cell), NONE);
        }
        bench.unchanged("found(0) without CELLS", PulseParts::new, x -> x.found(0), NONE);
        bench.unchanged("found(3), UNDONE", HeadFourTest::some, x -> x.found(3), NONE);
        bench.unchanged("found(0), not told", HeadFourTest::some, x -> x.found(0), HIDDEN);
        PulseParts x = forty();
        bench.due("found(0)", x.found(0), 0);
        bench.due("found(39)", x.found(39), 0);
    }

    /** SHARE by trying all rows. */
    private static long rows(int m, int levels, int order, int factor) {
        int all = 1;
        for (int i = 0; i <= m; i++) {
            all *= levels;
        }
        long rows = 0;
        int[] row = new int[m];
        for (int number = 0; number < all; number++) {
            int left = number;
            int one = left % levels;
            left /= levels;
            for (int i = 0; i < m; i++) {
                row[i] = left % levels;
                left /= levels;
            }
            int[] rising = row.clone();
            Arrays.sort(rising);
            rows += 10 * one > factor * rising[order - 1] ? 1 : 0;
        }
        return rows;
    }

    private static void share() {
        bench.sentence("SHARE: of all rows of m levels and one more, in which 10 times the one more is above a FACTOR times the ORDER-th; of 10 to the 6, cut");
        int[][] bounds = {{1, 1}, {1, 2}, {1, 9}, {2, 1}, {2, 3}, {2, 9}, {3, 4}, {4, 3}, {5, 2}, {7, 2}, {8, 1}, {8, 2}, {3, 9}};
        int[] factors = {0, 1, 9, 10, 11, 20, 45, 80, 98, 99};
        for (int[] b : bounds) {
            long all = 1;
            for (int i = 0; i <= b[0]; i++) {
                all *= b[1];
            }
            for (int order = 1; order <= b[0]; order++) {
                PulseParts x = new PulseParts();
                for (int factor : factors) {
                    long rows = rows(b[0], b[1], order, factor);
                    String of = "share(" + b[0] + ", " + b[1] + ", " + order + ", " + factor;
                    bench.due(of + ", 0)", x.share(b[0], b[1], order, factor, 0), rows);
                    bench.due(of + ", 1)", x.share(b[0], b[1], order, factor, 1), rows * 1000000 / all);
                }
            }
        }
        PulseParts x = new PulseParts();
        // Nine levels, eight and one: 9 to the 9 rows; with FACTOR 0 the one more is above 0.
        bench.due("share(8, 9, 8, 0, 0)", x.share(8, 9, 8, 0, 0), 344373768L);
        bench.due("share(8, 9, 8, 0, 1)", x.share(8, 9, 8, 0, 1), 888888);
        bench.due("share(8, 9, 8, 99, 0)", x.share(8, 9, 8, 99, 0), 8);
        bench.due("share(8, 9, 8, 99, 1)", x.share(8, 9, 8, 99, 1), 0);
    }

    private static void shareBounds() {
        bench.sentence("m (1 .. 8) levels, L 1 .. 9, ORDER-th 1 .. m, FACTOR 0 .. 99; share: NONE: no such ones");
        int[][] wrongs = {{0, 2, 1, 5, 0}, {9, 2, 1, 5, 0}, {-1, 2, 1, 5, 0}, {Integer.MIN_VALUE, 2, 1, 5, 0}, {Integer.MAX_VALUE, 2, 1, 5, 0},
            {3, 0, 1, 5, 0}, {3, 10, 1, 5, 0}, {3, -1, 1, 5, 0}, {3, Integer.MAX_VALUE, 1, 5, 0}, {3, 2, 0, 5, 0}, {3, 2, 4, 5, 0},
            {1, 2, 2, 5, 0}, {8, 2, 9, 5, 0}, {3, 2, Integer.MIN_VALUE, 5, 0}, {3, 2, 1, -1, 0}, {3, 2, 1, 100, 0},
            {3, 2, 1, Integer.MAX_VALUE, 0}, {3, 2, 1, 5, -1}, {3, 2, 1, 5, 2}, {3, 2, 1, 5, Integer.MIN_VALUE}, {0, 0, 0, 0, 0}};
        for (int[] w : wrongs) {
            bench.unchanged("share" + Arrays.toString(w), HeadFourTest::some, x -> x.share(w[0], w[1], w[2], w[3], w[4]), NONE);
        }
        int[][] fits = {{1, 1, 1, 0}, {8, 1, 8, 99}, {1, 9, 1, 99}, {8, 9, 8, 0}, {8, 9, 1, 99}};
        for (int[] f : fits) {
            bench.unchanged("share" + Arrays.toString(f) + " is told", HeadFourTest::some,
                    x -> x.share(f[0], f[1], f[2], f[3], 0) >= 0 && x.share(f[0], f[1], f[2], f[3], 1) >= 0 ? 1 : 0, 1);
        }
    }

    private static PulseParts beams(int many) {
        PulseParts x = new PulseParts();
        for (int i = 0; i < many; i++) {
            x.beam(1 + i, 99, 10 + i);
        }
        return x;
    }

    private static void beams() {
        bench.sentence("BEAMS (8 at most): TIME (1 .. 20), DUE (1 .. 99), WORTH (0 .. 99); beam: NONE: out of bounds, there are eight");
        int[][] fits = {{1, 1, 0}, {1, 1, 99}, {1, 99, 0}, {1, 99, 99}, {20, 1, 0}, {20, 1, 99}, {20, 99, 0}, {20, 99, 99}};
        PulseParts x = new PulseParts();
        for (int i = 0; i < 8; i++) {
            bench.due("beam" + Arrays.toString(fits[i]), x.beam(fits[i][0], fits[i][1], fits[i][2]), i);
            bench.due("count(5)", x.count(5), i + 1);
        }
        bench.due("beam, the ninth", x.beam(1, 1, 1), NONE);
        bench.unchanged("beam, the ninth", () -> beams(8), y -> y.beam(1, 99, 99), NONE);
        int[][] wrongs = {{0, 5, 5}, {21, 5, 5}, {-1, 5, 5}, {Integer.MIN_VALUE, 5, 5}, {Integer.MAX_VALUE, 5, 5}, {5, 0, 5}, {5, 100, 5},
            {5, -1, 5}, {5, Integer.MAX_VALUE, 5}, {5, 5, -1}, {5, 5, 100}, {5, 5, Integer.MIN_VALUE}, {5, 5, Integer.MAX_VALUE}};
        for (int[] w : wrongs) {
            bench.unchanged("beam" + Arrays.toString(w), () -> beams(7), y -> y.beam(w[0], w[1], w[2]), NONE);
            bench.unchanged("beam" + Arrays.toString(w) + ", eight", () -> beams(8), y -> y.beam(w[0], w[1], w[2]), NONE);
            bench.unchanged("beam" + Arrays.toString(w) + ", new", PulseParts::new, y -> y.beam(w[0], w[1], w[2]), NONE);
        }
    }

    private static void byTheirDue() {
        bench.sentence("PLAN: .. in some order, one behind the other from 0, all be done by their DUE");
        for (int time = 1; time <= 20; time++) {
            for (int due = Math.max(1, time - 1); due <= time + 1; due++) {
                PulseParts x = new PulseParts();
                x.beam(time, due, 7);
                bench.due("plan(0) of TIME " + time + " by " + due, x.plan(0), due >= time ? 7 : 0);
                bench.due("plan(1) of TIME " + time + " by " + due, x.plan(1), due >= time ? 1 : 0);
            }
        }
        for (int[] order : new int[][] {{0, 1, 2}, {0, 2, 1}, {1, 0, 2}, {1, 2, 0}, {2, 0, 1}, {2, 1, 0}}) {
            // Together just done by 3, 5 and 9; each in any order told.
            int[][] told = {{3, 3, 5}, {2, 5, 6}, {4, 9, 7}};
            PulseParts x = new PulseParts();
            PulseParts late = new PulseParts();
            for (int i : order) {
                x.beam(told[i][0], told[i][1], told[i][2]);
                late.beam(told[i][0], i == 2 ? 8 : told[i][1], told[i][2]);
            }
            bench.due("plan(0), all three just done", x.plan(0), 18);
            bench.due("plan(1), all three just done", x.plan(1), 7);
            bench.due("plan(0), one too late", late.plan(0), 13);
        }
        PulseParts eight = new PulseParts();
        for (int i = 7; i >= 0; i--) {
            eight.beam(12, Math.min(99, 12 * (i + 1)), 1 + i);
        }
        bench.due("plan(0) of eight", eight.plan(0), 36);
        bench.due("plan(1) of eight", eight.plan(1), 255);
        PulseParts nine = new PulseParts();
        for (int i = 7; i >= 0; i--) {
            nine.beam(13, Math.min(99, 13 * (i + 1)), 1 + i);
        }
        bench.due("plan(0) of eight, 104 by 99", nine.plan(0), 35);
        bench.due("plan(1) of eight, 104 by 99", nine.plan(1), 0b01111111);
    }

    private static void plan() {
        bench.sentence("PLAN: .. that of the most WORTH together (of several the least bits); plan: NONE: no BEAMS, no such what");
        for (int what : new int[] {0, 1, -1, 2}) {
            bench.unchanged("plan(" + what + ") without BEAMS", PulseParts::new, x -> x.plan(what), NONE);
        }
        for (int what : new int[] {-1, 2, Integer.MIN_VALUE, Integer.MAX_VALUE}) {
            bench.unchanged("plan(" + what + ")", HeadFourTest::some, x -> x.plan(what), NONE);
        }
        bench.unchanged("plan(0)", HeadFourTest::some, x -> x.plan(0), 102);
        PulseParts none = new PulseParts();
        none.beam(20, 19, 99);
        bench.due("plan(0), none can be done", none.plan(0), 0);
        bench.due("plan(1), none can be done", none.plan(1), 0);
        PulseParts worthless = new PulseParts();
        worthless.beam(1, 1, 0);
        bench.due("plan(0), of no WORTH", worthless.plan(0), 0);
        bench.due("plan(1), of no WORTH", worthless.plan(1), 0);
        PulseParts alike = new PulseParts();
        for (int i = 0; i < 8; i++) {
            alike.beam(5, 5, 9);
        }
        bench.due("plan(1), one of eight alike", alike.plan(1), 1);
        PulseParts two = new PulseParts();
        for (int i = 0; i < 8; i++) {
            two.beam(5, 10, 9);
        }
        bench.due("plan(1), two of eight alike", two.plan(1), 3);
        bench.due("plan(0), two of eight alike", two.plan(0), 18);
        PulseParts last = new PulseParts();
        for (int i = 0; i < 8; i++) {
            last.beam(5, 5, i == 7 ? 10 : 9);
        }
        bench.due("plan(1), the last of eight", last.plan(1), 128);
        // 0 and 1 together are worth as much as 2 alone: the least bits are those of both.
        PulseParts sum = new PulseParts();
        sum.beam(2, 4, 4);
        sum.beam(2, 4, 5);
        sum.beam(4, 4, 9);
        bench.due("plan(1), two against one", sum.plan(1), 3);
        PulseParts most = new PulseParts();
        for (int i = 0; i < 8; i++) {
            most.beam(12, 99, 99);
        }
        bench.due("plan(0), the most there can be", most.plan(0), 792);
    }

    private static void image() {
        bench.sentence("An IMAGE keeps the CELLS (instead of the one ahead): how many CELLS");
        PulseParts x = new PulseParts();
        bench.due("image() of none", x.image(), 0);
        x.cell(4);
        bench.due("back() to none", x.back(), 0);
        bench.due("at(0)", x.at(0), NONE);
        x.draw(40, 1000, 1L);
        int first = x.at(0);
        int lastOne = x.at(39);
        bench.due("image() of forty", x.image(), 40);
        x.draw(1, 1, 1L);
        bench.due("back() to forty", x.back(), 40);
        bench.due("at(0)", x.at(0), first);
        bench.due("at(39)", x.at(39), lastOne);
        // The IMAGE stays as it was, whatever the CELLS become.
        x.change(0, (first + 1) % 1000);
        x.undo(false);
        x.undo(false);
        bench.due("count(4)", x.count(4), 1);
        bench.due("back()", x.back(), 40);
        bench.due("at(0)", x.at(0), first);
        PulseParts y = Bench.cells(1, 2, 3);
        y.image();
        y.undo(false);
        bench.due("image(), instead", y.image(), 2);
        bench.due("count(6), no ACT", y.count(6), 2);
        bench.due("count(7), no ACT", y.count(7), 1);
        y.undo(true);
        bench.due("back()", y.back(), 2);
        bench.due("at(2)", y.at(2), NONE);
    }

    private static void back() {
        bench.sentence("BACK: they are so again (an ACT, too): how many CELLS. NONE: no IMAGE.");
        bench.unchanged("back(), new", PulseParts::new, PulseParts::back, NONE);
        bench.unchanged("back() without an IMAGE", HeadFourTest::forty, PulseParts::back, NONE);
        bench.unchanged("back() without an IMAGE, one UNDONE", () -> {
            PulseParts x = Bench.cells(1, 2, 3);
            x.undo(false);
            return x;
        }, PulseParts::back, NONE);
        PulseParts x = forty();
        x.image();
        bench.due("back() to what is", x.back(), 40);
        bench.due("count(6)", x.count(6), 30);
        for (int i = 0; i < 31; i++) {
            bench.due("back() again and again", x.back(), 40);
        }
        bench.due("count(6)", x.count(6), 30);
        bench.due("undo(false)", x.undo(false), 40);
        bench.due("at(39)", x.at(39), 390);
    }
}
