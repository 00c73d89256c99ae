import java.util.ArrayDeque;
import java.util.ArrayList;
import java.util.Arrays;
import java.util.HashMap;
import java.util.HashSet;
import java.util.List;
import java.util.Map;
import java.util.NoSuchElementException;
import java.util.Random;
import java.util.Set;
import java.util.TreeSet;

/**
 * Long drawn runs (always the same ones) against a model that does each thing in the plainest way that
 * the document's words allow: FAULTS by a general parser over the grammar as it stands, all else by trying all.
 */
public final class OracleTest {
    private static final int RUNS = 400;
    private static final int CALLS = 500;
    private static int wrong = 0;
    private static long compared = 0;

    public static void main(String[] args) {
        for (int seed = 1; seed <= RUNS && wrong < 20; seed++) {
            new Run(seed).go();
        }
        allBestCodes();
        bigShares();
        System.out.println(compared + " answers compared, " + wrong + " of them wrong");
        if (wrong != 0) {
            System.exit(1);
        }
    }

    private static void due(String call, long got, long want) {
        compared++;
        if (got != want) {
            wrong++;
            System.out.println(call + " answered " + got + ", due is " + want);
        }
    }

    private static void allBestCodes() {
        PulseParts x = new PulseParts();
        for (int length = 2; length <= 12; length++) {
            for (int what = 0; what < 4; what++) {
                due("best(" + length + ", " + what + ")", x.best(length, what), Model.bestCode(length)[what]);
            }
        }
    }

    /** The dearest SHARES, by going from row to row of counts instead of from row to row of levels. */
    private static void bigShares() {
        for (int m = 1; m <= 8; m++) {
            for (int levels = 1; levels <= 9; levels += m > 5 ? 4 : 2) {
                PulseParts x = new PulseParts();
                for (int order = 1; order <= m; order++) {
                    for (int factor = 0; factor <= 99; factor += 11) {
                        long rows = countRows(m, levels, order, factor, 0, 0, 1);
                        long all = 1;
                        for (int i = 0; i <= m; i++) {
                            all *= levels;
                        }
                        String call = "(" + m + ", " + levels + ", " + order + ", " + factor;
                        due("share" + call + ", 0)", x.share(m, levels, order, factor, 0), rows);
                        due("share" + call + ", 1)", x.share(m, levels, order, factor, 1), rows * 1000000 / all);
                    }
                }
            }
        }
    }

    /** Rows of which `placed` levels below `level` are told, in `ways` many orders; the ORDER-th is looked for. */
    private static long countRows(int m, int levels, int order, int factor, int placed, int level, long ways) {
        if (level == levels) {
            return 0;
        }
        long rows = 0;
        long chosen = ways;
        for (int here = 0; placed + here <= m; here++) {
            if (here > 0) {
                chosen = chosen * (m - placed - here + 1) / here;
            }
            if (placed + here < order) {
                rows += countRows(m, levels, order, factor, placed + here, level + 1, chosen);
            } else {
                long rest = 1;
                for (int i = placed + here; i < m; i++) {
                    rest *= levels - 1 - level;
                }
                int above = 0;
                for (int x = 0; x < levels; x++) {
                    if (10 * x > factor * level) {
                        above++;
                    }
                }
                rows += chosen * rest * above;
            }
        }
        return rows;
    }

    /** One run: an object and a model get the same calls. */
    private static final class Run {
        private final int seed;
        private final Random random;
        private final PulseParts x = new PulseParts();
        private final Model model = new Model();
        private final List<String> told = new ArrayList<>();

        Run(int seed) {
            this.seed = seed;
            this.random = new Random(seed * 7919L);
        }

        void go() {
            int calls = 0;
            while (calls < CALLS) {
                int before = wrong;
                calls += random.nextInt(9) < 2 ? tellText() : one();
                if (wrong > before) {
                    System.out.println("  in run " + seed + ", the latest calls: " + told.subList(Math.max(0, told.size() - 12), told.size()));
                    return;
                }
            }
        }

        private int n(int low, int high) {
            int odd = random.nextInt(60);
            if (odd == 0) {
                return low - 1;
            }
            if (odd == 1) {
                return high + 1;
            }
            if (odd == 2) {
                int[] far = {Integer.MIN_VALUE, Integer.MAX_VALUE, -2, -1, 0, 1000000, 1 << 30};
                return far[random.nextInt(far.length)];
            }
            return low + random.nextInt(Math.max(1, high - low + 1));
        }

        private void check(String call, long got, long want) {
            told.add(call + "=" + got);
            due("run " + seed + ": " + call, got, want);
        }

        private int tellText() {
            int sort = random.nextInt(3);
            String text = sort == 0 ? Texts.code(random) : sort == 1 ? Texts.law(random) : Texts.rests(random);
            if (random.nextInt(3) == 0) {
                text = Texts.spoilt(text, random);
            }
            int calls = 3;
            if (model.tape.length() > 0) {
                int n = random.nextInt(10) == 0 ? n(0, model.tape.length()) : 0;
                check("end(" + n + ")", x.end(n) ? 1 : 0, model.end(n) ? 1 : 0);
            }
            for (int i = 0; i < text.length();) {
                int[] five = new int[5];
                for (int b = 0; b < 20; b++) {
                    boolean empty = random.nextInt(12) == 0;
                    int one = empty || i >= text.length() ? 0 : text.charAt(i++);
                    five[b / 4] |= one << 24 - b % 4 * 8;
                }
                check("feed(" + five[0] + ", " + five[1] + ", " + five[2] + ", " + five[3] + ", " + five[4] + ")",
                        x.feed(five[0], five[1], five[2], five[3], five[4]), model.feed(five));
                calls++;
            }
            check("fault(" + sort + ") of '" + model.tape + "'", x.fault(sort), model.fault(sort));
            int other = n(0, 2);
            check("fault(" + other + ") of '" + model.tape + "'", x.fault(other), model.fault(other));
            int as = random.nextInt(20) == 0 ? other : sort;
            check("text(" + as + ") of '" + model.tape + "'", x.text(as), model.text(as));
            return calls;
        }

        private int code() {
            return n(0, model.codes.size() - 1);
        }

        private int law() {
            return n(-1, model.laws.size() - 1);
        }

        private int rests() {
            return n(0, model.rests.size() - 1);
        }

        private int one() {
            int kind = random.nextInt(38);
            if (kind < 13) {
                codeCall(kind);
            } else if (kind < 22) {
                restCall(kind - 13);
            } else {
                cellCall(kind - 22);
            }
            return 1;
        }

        private void codeCall(int kind) {
            int a = code();
            int b = code();
            int law = law();
            int way = n(-23, 23);
            int speed = n(0, 3);
            int what = n(0, 4);
            switch (kind) {
                case 0: {
                    int k = n(-1, 24);
                    check("sign(" + a + ", " + k + ")", signOf(a, k), model.sign(a, k));
                    break;
                }
                case 1: {
                    int k = n(0, 12);
                    check("weight(" + a + ", " + law + ", " + k + ")", x.weight(a, law, k), model.weight(a, law, k));
                    break;
                }
                case 2:
                case 3: {
                    int which = n(0, 2);
                    check("comes(" + a + ", " + b + ", " + law + ", " + way + ", " + speed + ", " + which + ")",
                            x.comes(a, b, law, way, speed, which), model.comes(a, b, law, way, speed, which));
                    break;
                }
                case 4:
                case 5:
                    check("lobes(" + a + ", " + law + ", " + what + ")", x.lobes(a, law, what), model.lobes(a, law, what));
                    break;
                case 6:
                    check("hinder(" + a + ", " + b + ")", x.hinder(a, b), model.hinder(a, b));
                    break;
                case 7: {
                    int bound = n(0, 60);
                    check("friends(" + bound + ")", x.friends(bound), model.friends(bound));
                    break;
                }
                case 8: {
                    int length = n(2, 9);
                    int which = n(0, 3);
                    check("best(" + length + ", " + which + ")", x.best(length, which), model.best(length, which));
                    break;
                }
                case 9: {
                    int which = n(0, 3);
                    check("filter(" + a + ", " + which + ")", x.filter(a, which), model.filter(a, which));
                    break;
                }
                case 10:
                    check("like(" + a + ", " + b + ")", x.like(a, b), model.like(a, b));
                    break;
                case 11:
                    check("partners(" + a + ", " + b + ")", x.partners(a, b), model.partners(a, b));
                    break;
                default: {
                    int m = n(1, 8);
                    check("cancel(" + m + ", " + speed + ")", x.cancel(m, speed), model.cancel(m, speed));
                    break;
                }
            }
        }

        private long signOf(int code, int k) {
            try {
                return x.sign(code, k);
            } catch (NoSuchElementException e) {
                return -99;
            }
        }

        private void restCall(int kind) {
            int set = rests();
            int most = n(1, random.nextBoolean() ? 999 : 60);
            int which = n(0, 1);
            switch (kind) {
                case 0: {
                    int i = n(-1, 4);
                    check("rest(" + set + ", " + i + ")", x.rest(set, i), model.rest(set, i));
                    break;
                }
                case 1: {
                    int what = random.nextInt(3) > 0 ? n(0, 1) : n(0, 5);
                    int v = n(what == 1 ? 1 : 0, what == 1 ? 3 : what == 5 ? 40 : 4);
                    check("set(" + what + ", " + v + ")", x.set(what, v) ? 1 : 0, model.set(what, v) ? 1 : 0);
                    break;
                }
                case 2: {
                    int r = n(0, 999);
                    check("seen(" + set + ", " + r + ")", x.seen(set, r), model.seen(set, r));
                    break;
                }
                case 3:
                    check("map(" + set + ", " + most + ", " + which + ")", x.map(set, most, which), model.map(set, most, which));
                    break;
                case 4: {
                    int k = n(0, 4);
                    check("choice(" + set + ", " + k + ", " + most + ", " + which + ")",
                            x.choice(set, k, most, which), model.choice(set, k, most, which));
                    break;
                }
                case 5: {
                    int place = n(0, random.nextBoolean() ? 1 : 7);
                    int v = random.nextBoolean() ? -1 : n(0, random.nextBoolean() ? 6 : 98);
                    check("read(" + place + ", " + v + ")", x.read(place, v) ? 1 : 0, model.read(place, v) ? 1 : 0);
                    break;
                }
                case 6: {
                    int wrongs = n(0, 2);
                    int by = n(0, 3);
                    int i = n(-1, 9);
                    check("unfold(" + set + ", " + most + ", " + wrongs + ", " + by + ", " + i + ")",
                            x.unfold(set, most, wrongs, by, i), model.unfold(set, most, wrongs, by, i));
                    break;
                }
                case 7: {
                    int r = n(0, 40);
                    int s = n(0, 40);
                    check("ghosts(" + set + ", " + r + ", " + s + ", " + most + ")",
                            x.ghosts(set, r, s, most), model.ghosts(set, r, s, most));
                    break;
                }
                default: {
                    int k = n(1, 3);
                    int low = n(2, 30);
                    int high = n(low, Math.min(30, low + 9));
                    int near = n(1, 300);
                    check("stagger(" + k + ", " + low + ", " + high + ", " + near + ", " + which + ")",
                            x.stagger(k, low, high, near, which), model.stagger(k, low, high, near, which));
                    break;
                }
            }
        }

        private void cellCall(int kind) {
            int cell = n(0, model.cells.size() - 1);
            int v = random.nextInt(4) == 0 ? n(900, 999) : n(0, 99);
            int which = n(0, 2);
            switch (kind) {
                case 0:
                case 1:
                    check("cell(" + v + ")", x.cell(v), model.cell(v));
                    break;
                case 2:
                    check("change(" + cell + ", " + v + ")", x.change(cell, v) ? 1 : 0, model.change(cell, v) ? 1 : 0);
                    break;
                case 3: {
                    int many = n(1, 40);
                    int of = n(1, 1000);
                    long seed = random.nextLong();
                    check("draw(" + many + ", " + of + ", " + seed + ")", x.draw(many, of, seed) ? 1 : 0,
                            model.draw(many, of, seed) ? 1 : 0);
                    break;
                }
                case 4:
                    check("at(" + cell + ")", x.at(cell), model.at(cell));
                    break;
                case 5:
                case 6: {
                    boolean again = random.nextInt(5) < 2;
                    int times = random.nextInt(12) == 0 ? 33 : 1;
                    for (int i = 0; i < times; i++) {
                        check("undo(" + again + ")", x.undo(again), model.undo(again));
                    }
                    break;
                }
                case 7:
                    check("found(" + cell + ")", x.found(cell), model.found(cell));
                    break;
                case 8:
                    check("alarms()", x.alarms(), model.alarms());
                    break;
                case 9: {
                    int m = n(1, 4);
                    int levels = n(1, 5);
                    int order = n(1, m);
                    int parts = n(0, random.nextBoolean() ? 1000000 : 400000);
                    int factor = n(0, random.nextBoolean() ? 99 : 30);
                    if (m <= 4 && levels <= 5) {
                        check("share(" + m + ", " + levels + ", " + order + ", " + factor + ", " + which + ")",
                                x.share(m, levels, order, factor, which), model.share(m, levels, order, factor, which));
                        if (m <= 3 && levels <= 4) {
                            check("factor(" + m + ", " + levels + ", " + order + ", " + parts + ")",
                                    x.factor(m, levels, order, parts), model.factor(m, levels, order, parts));
                        }
                    }
                    break;
                }
                case 10: {
                    int time = n(1, random.nextInt(3) == 0 ? 20 : 4);
                    int due = n(1, random.nextInt(3) == 0 ? 99 : 12);
                    int worth = n(0, random.nextInt(3) == 0 ? 99 : 3);
                    check("beam(" + time + ", " + due + ", " + worth + ")", x.beam(time, due, worth), model.beam(time, due, worth));
                    break;
                }
                case 11:
                    check("plan(" + which + ")", x.plan(which), model.plan(which));
                    break;
                case 12:
                    check("heaps(" + which + ")", x.heaps(which), model.heaps(which));
                    break;
                case 13:
                    check("image()", x.image(), model.image());
                    break;
                case 14:
                    check("back()", x.back(), model.back());
                    break;
                default: {
                    int what = n(0, 7);
                    check("count(" + what + ")", x.count(what), model.count(what));
                    break;
                }
            }
        }
    }

    /** Drawn texts. */
    private static final class Texts {
        static String blank(Random r) {
            return r.nextInt(9) == 0 ? "  ".substring(r.nextInt(2)) : "";
        }

        static String code(Random r) {
            StringBuilder s = new StringBuilder();
            int items = 1 + r.nextInt(r.nextInt(6) == 0 ? 14 : 5);
            for (int i = 0; i < items; i++) {
                s.append(blank(r)).append("+-ij".charAt(r.nextInt(r.nextBoolean() ? 2 : 4)));
                if (r.nextInt(3) == 0) {
                    s.append(blank(r)).append((char) ('1' + r.nextInt(r.nextInt(5) == 0 ? 9 : 3)));
                }
            }
            return s + blank(r);
        }

        static String rests(Random r) {
            StringBuilder s = new StringBuilder();
            int many = 1 + r.nextInt(r.nextInt(6) == 0 ? 10 : 4);
            for (int i = 0; i < many; i++) {
                s.append(i > 0 ? blank(r) + "," : "").append(blank(r));
                s.append(r.nextInt(30) == 0 ? "0" : "").append(r.nextInt(40) == 0 ? r.nextInt(120) : 2 + r.nextInt(r.nextInt(3) == 0 ? 98 : 12));
            }
            return s + blank(r);
        }

        static String law(Random r) {
            StringBuilder s = new StringBuilder();
            int clauses = 1 + r.nextInt(3);
            for (int i = 0; i < clauses; i++) {
                s.append(i > 0 ? ";" : "").append(blank(r)).append("y").append(blank(r)).append(":");
                if (r.nextInt(3) > 0) {
                    s.append(condition(r, 0)).append(blank(r)).append("?");
                }
                s.append(sum(r, 0)).append(blank(r));
            }
            return s.toString();
        }

        static String condition(Random r, int depth) {
            StringBuilder s = new StringBuilder();
            do {
                s.append(s.length() > 0 ? r.nextBoolean() ? "|" : "&" : "").append(unit(r, depth)).append(blank(r));
            } while (r.nextInt(3) == 0);
            return s.toString();
        }

        static String unit(Random r, int depth) {
            int kind = r.nextInt(8);
            if (kind < 2 && depth < 7) {
                return blank(r) + (kind == 0 ? "!" + unit(r, depth + 1) : "(" + condition(r, depth + 1) + blank(r) + ")");
            }
            return sum(r, depth) + blank(r) + "=<>".charAt(r.nextInt(3)) + sum(r, depth);
        }

        static String sum(Random r, int depth) {
            StringBuilder s = new StringBuilder();
            do {
                s.append(s.length() > 0 ? blank(r) + "+-*/".charAt(r.nextInt(4)) : "").append(blank(r)).append(atom(r, depth));
            } while (r.nextInt(3) == 0);
            return s.toString();
        }

        static String atom(Random r, int depth) {
            int kind = r.nextInt(8);
            if (kind == 0 && depth < 7) {
                return "[" + sum(r, depth + 1) + blank(r) + "]";
            }
            if (kind < 4) {
                return String.valueOf(r.nextInt(new int[] {10, 10, 100, 10000}[r.nextInt(4)]));
            }
            return String.valueOf("knab".charAt(r.nextInt(4)));
        }

        static String spoilt(String text, Random r) {
            StringBuilder s = new StringBuilder(text);
            for (int i = r.nextInt(3); i >= 0; i--) {
                int at = r.nextInt(s.length() + 1);
                int kind = r.nextInt(4);
                if (kind == 0 && at < s.length()) {
                    s.deleteCharAt(at);
                } else if (kind == 1) {
                    s.setLength(at);
                } else {
                    String odd = "+-ij0123456789,;y:?!(&|)[]=<>*/knab ~\u00e9";
                    s.insert(at, odd.charAt(r.nextInt(odd.length())));
                }
            }
            return s.toString();
        }
    }

    /** A general parser (Earley's): the first place behind which no text of the grammar can go on. */
    private static final class Grammar {
        private final Map<String, List<String[]>> rules = new HashMap<>();
        private final String start;

        Grammar(String start) {
            this.start = start;
        }

        Grammar rule(String name, String... parts) {
            rules.computeIfAbsent(name, n -> new ArrayList<>()).add(parts);
            return this;
        }

        private record Item(String name, int rule, int dot, int from) { }

        private String[] parts(Item item) {
            return rules.get(item.name).get(item.rule);
        }

        int fault(String text) {
            List<Set<Item>> sets = new ArrayList<>();
            sets.add(new HashSet<>());
            for (int r = 0; r < rules.get(start).size(); r++) {
                sets.get(0).add(new Item(start, r, 0, 0));
            }
            for (int at = 0;; at++) {
                fill(sets, at);
                if (at == text.length()) {
                    for (Item item : sets.get(at)) {
                        if (item.name.equals(start) && item.from == 0 && item.dot == parts(item).length) {
                            return -1;
                        }
                    }
                    return at;
                }
                Set<Item> next = new HashSet<>();
                for (Item item : sets.get(at)) {
                    String[] parts = parts(item);
                    if (item.dot < parts.length && !rules.containsKey(parts[item.dot])
                            && parts[item.dot].indexOf(text.charAt(at)) >= 0) {
                        next.add(new Item(item.name, item.rule, item.dot + 1, item.from));
                    }
                }
                if (next.isEmpty()) {
                    return at;
                }
                sets.add(next);
            }
        }

        private void fill(List<Set<Item>> sets, int at) {
            Set<Item> set = sets.get(at);
            ArrayDeque<Item> open = new ArrayDeque<>(set);
            while (!open.isEmpty()) {
                Item item = open.poll();
                String[] parts = parts(item);
                List<Item> more = new ArrayList<>();
                if (item.dot == parts.length) {
                    for (Item up : new ArrayList<>(sets.get(item.from))) {
                        String[] upper = parts(up);
                        if (up.dot < upper.length && upper[up.dot].equals(item.name)) {
                            more.add(new Item(up.name, up.rule, up.dot + 1, up.from));
                        }
                    }
                } else if (rules.containsKey(parts[item.dot])) {
                    for (int r = 0; r < rules.get(parts[item.dot]).size(); r++) {
                        more.add(new Item(parts[item.dot], r, 0, at));
                    }
                }
                for (Item one : more) {
                    if (set.add(one)) {
                        open.add(one);
                    }
                }
            }
        }

        // A terminal is a text: one of its signs. No rule is empty, since an Earley parser of this plain form
        // would miss some completions; so B (blanks, one at least) stands in rules of its own.
        static Grammar ofLaws() {
            Grammar g = new Grammar("LAW");
            g.rule("B", " ").rule("B", "B", " ");
            g.rule("LAW", "ROW").rule("LAW", "ROW", "B");
            token(g, "y");
            token(g, ":");
            token(g, ";");
            token(g, "?");
            token(g, "!");
            token(g, "(");
            token(g, ")");
            token(g, "[");
            token(g, "]");
            token(g, "&");
            token(g, "|");
            token(g, "=<>");
            token(g, "+-");
            token(g, "*/");
            token(g, "knab");
            String d = "0123456789";
            g.rule("NUMBER", "DIGITS").rule("NUMBER", "B", "DIGITS");
            g.rule("DIGITS", d).rule("DIGITS", d, d).rule("DIGITS", d, d, d).rule("DIGITS", d, d, d, d);
            g.rule("ROW", "CLAUSE").rule("ROW", "ROW", "<;>", "CLAUSE");
            g.rule("CLAUSE", "<y>", "<:>", "SUM0").rule("CLAUSE", "<y>", "<:>", "CONDITION0", "<?>", "SUM0");
            for (int i = 0; i <= 6; i++) {
                g.rule("CONDITION" + i, "TRUTH" + i).rule("CONDITION" + i, "CONDITION" + i, "<|>", "TRUTH" + i);
                g.rule("TRUTH" + i, "UNIT" + i).rule("TRUTH" + i, "TRUTH" + i, "<&>", "UNIT" + i);
                g.rule("UNIT" + i, "SUM" + i, "<=<>>", "SUM" + i);
                g.rule("SUM" + i, "TERM" + i).rule("SUM" + i, "SUM" + i, "<+->", "TERM" + i);
                g.rule("TERM" + i, "ATOM" + i).rule("TERM" + i, "TERM" + i, "<*/>", "ATOM" + i);
                g.rule("ATOM" + i, "NUMBER").rule("ATOM" + i, "<knab>");
                if (i < 6) {
                    g.rule("UNIT" + i, "<!>", "UNIT" + (i + 1)).rule("UNIT" + i, "<(>", "CONDITION" + (i + 1), "<)>");
                    g.rule("ATOM" + i, "<[>", "SUM" + (i + 1), "<]>");
                }
            }
            return g;
        }

        private static void token(Grammar g, String signs) {
            g.rule("<" + signs + ">", signs).rule("<" + signs + ">", "B", signs);
        }
    }

    /** The document's words, done plainly. */
    private static final class Model {
        private static final Grammar LAWS = Grammar.ofLaws();
        private static final Map<Integer, int[]> BEST = new HashMap<>();

        String tape = "";
        final List<int[]> codes = new ArrayList<>();
        final List<String> laws = new ArrayList<>();
        final List<int[]> rests = new ArrayList<>();
        final int[] settings = {1, 1, 1, 3, 3, 20};
        final int[] readings = {-1, -1, -1, -1, -1, -1, -1, -1};
        List<Integer> cells = new ArrayList<>();
        final ArrayDeque<List<Integer>> ahead = new ArrayDeque<>();
        final ArrayDeque<List<Integer>> behind = new ArrayDeque<>();
        List<Integer> image = null;
        final List<int[]> beams = new ArrayList<>();
        private final Map<Integer, int[]> filters = new HashMap<>();

        private static boolean in(long v, long low, long high) {
            return low <= v && v <= high;
        }

        private boolean code(int c) {
            return in(c, 0, codes.size() - 1);
        }

        private boolean law(int l) {
            return in(l, -1, laws.size() - 1);
        }

        private boolean set(int s) {
            return in(s, 0, rests.size() - 1);
        }

        int feed(int[] five) {
            StringBuilder s = new StringBuilder(tape);
            for (int v : five) {
                for (int shift = 24; shift >= 0; shift -= 8) {
                    char c = (char) (v >> shift & 0xff);
                    if (c != 0) {
                        s.append(c);
                    }
                }
            }
            if (s.length() > 120) {
                return -1;
            }
            tape = s.toString();
            return tape.length();
        }

        boolean end(int n) {
            if (!in(n, 0, tape.length())) {
                return false;
            }
            tape = tape.substring(0, n);
            return true;
        }

        int fault(int sort) {
            switch (sort) {
                case 0:
                    return codeFault(tape);
                case 1:
                    return LAWS.fault(tape);
                case 2:
                    return restFault(tape);
                default:
                    return -2;
            }
        }

        private static int codeFault(String text) {
            for (int end = 1; end <= text.length(); end++) {
                String head = text.substring(0, end);
                if (!head.matches(" *([-+ij] *([1-9] *)?)*") || expanded(head).length() > 24) {
                    return end - 1;
                }
            }
            return expanded(text).isEmpty() ? text.length() : -1;
        }

        private static String expanded(String text) {
            String tight = text.replace(" ", "");
            StringBuilder s = new StringBuilder();
            for (int i = 0; i < tight.length(); i++) {
                char c = tight.charAt(i);
                if (Character.isDigit(c)) {
                    s.append(String.valueOf(tight.charAt(i - 1)).repeat(c - '1'));
                } else {
                    s.append(c);
                }
            }
            return s.toString();
        }

        private static int restFault(String text) {
            int numbers = 0;
            int i = 0;
            while (true) {
                while (i < text.length() && text.charAt(i) == ' ') {
                    i++;
                }
                int from = i;
                while (i < text.length() && i < from + 2 && "0123456789".indexOf(text.charAt(i)) >= 0) {
                    i++;
                }
                if (i == from) {
                    return i;
                }
                if (Integer.parseInt(text.substring(from, i)) < 2) {
                    return i - 1;
                }
                numbers++;
                while (i < text.length() && text.charAt(i) == ' ') {
                    i++;
                }
                if (i == text.length()) {
                    return -1;
                }
                if (text.charAt(i) != ',' || numbers == 8) {
                    return i;
                }
                i++;
            }
        }

        int text(int sort) {
            if (!in(sort, 0, 2) || fault(sort) != -1) {
                return -1;
            }
            String tight = tape.replace(" ", "");
            if (sort == 0 && codes.size() < 8) {
                String signs = expanded(tape);
                int[] code = new int[signs.length()];
                for (int k = 0; k < code.length; k++) {
                    code[k] = "+i-j".indexOf(signs.charAt(k));
                }
                codes.add(code);
                tape = "";
                return codes.size() - 1;
            }
            if (sort == 1 && laws.size() < 6) {
                laws.add(tight);
                tape = "";
                return laws.size() - 1;
            }
            if (sort == 2 && rests.size() < 6) {
                rests.add(Arrays.stream(tight.split(",")).mapToInt(Integer::parseInt).toArray());
                tape = "";
                return rests.size() - 1;
            }
            return -1;
        }

        long sign(int c, int k) {
            if (!code(c) || !in(k, -1, codes.get(c).length - 1)) {
                return -99;
            }
            return k == -1 ? codes.get(c).length : codes.get(c)[k];
        }

        int rest(int s, int i) {
            if (!set(s) || !in(i, -1, rests.get(s).length - 1)) {
                return -1;
            }
            return i == -1 ? rests.get(s).length : rests.get(s)[i];
        }

        // A LAW is told from its text: at the last sign of the lowest rank outside of brackets it is cut in two.

        private static final int[][] POINTS = {{1, 0}, {0, 1}, {-1, 0}, {0, -1}};

        int weight(int c, int l, int k) {
            if (!code(c) || !law(l) || !in(k, 0, codes.get(c).length - 1)) {
                return -1000000;
            }
            if (l == -1) {
                return 1;
            }
            int[] point = POINTS[codes.get(c)[k]];
            Map<Character, Long> letters = Map.of('k', (long) k, 'n', (long) codes.get(c).length, 'a', (long) point[0], 'b', (long) point[1]);
            for (String clause : laws.get(l).split(";")) {
                String body = clause.substring(2);
                int cut = body.indexOf('?');
                if (cut < 0 || truth(body.substring(0, cut), letters)) {
                    return (int) Math.max(-9, Math.min(9, sum(body.substring(cut + 1), letters)));
                }
            }
            return 0;
        }

        private static int lastOutside(String s, String signs) {
            int depth = 0;
            for (int i = s.length() - 1; i >= 0; i--) {
                char c = s.charAt(i);
                depth += c == ')' || c == ']' ? 1 : c == '(' || c == '[' ? -1 : 0;
                if (depth == 0 && signs.indexOf(c) >= 0) {
                    return i;
                }
            }
            return -1;
        }

        private static boolean truth(String s, Map<Character, Long> letters) {
            int cut = lastOutside(s, "|");
            if (cut >= 0) {
                return truth(s.substring(0, cut), letters) | truth(s.substring(cut + 1), letters);
            }
            cut = lastOutside(s, "&");
            if (cut >= 0) {
                return truth(s.substring(0, cut), letters) & truth(s.substring(cut + 1), letters);
            }
            if (s.charAt(0) == '!') {
                return !truth(s.substring(1), letters);
            }
            if (s.charAt(0) == '(') {
                return truth(s.substring(1, s.length() - 1), letters);
            }
            cut = lastOutside(s, "=<>");
            long left = sum(s.substring(0, cut), letters);
            long right = sum(s.substring(cut + 1), letters);
            return s.charAt(cut) == '=' ? left == right : s.charAt(cut) == '<' ? left < right : left > right;
        }

        private static long sum(String s, Map<Character, Long> letters) {
            int cut = lastOutside(s, "+-");
            if (cut < 0) {
                cut = lastOutside(s, "*/");
            }
            if (cut >= 0) {
                long left = sum(s.substring(0, cut), letters);
                long right = sum(s.substring(cut + 1), letters);
                char sign = s.charAt(cut);
                long v = sign == '+' ? left + right : sign == '-' ? left - right : sign == '*' ? left * right : right == 0 ? 0 : left / right;
                return Math.max(-1000000, Math.min(1000000, v));
            }
            if (s.charAt(0) == '[') {
                return sum(s.substring(1, s.length() - 1), letters);
            }
            return letters.containsKey(s.charAt(0)) ? letters.get(s.charAt(0)) : Long.parseLong(s);
        }

        private int[] weights(int c, int l) {
            int[] weights = new int[codes.get(c).length];
            for (int k = 0; k < weights.length; k++) {
                weights[k] = weight(c, l, k);
            }
            return weights;
        }

        private static int[] times(int[] a, int[] b) {
            return new int[] {a[0] * b[0] - a[1] * b[1], a[0] * b[1] + a[1] * b[0]};
        }

        private static int[] come(int[] first, int[] second, int[] weights, int way, int speed) {
            int re = 0;
            int im = 0;
            for (int k = 0; k < first.length; k++) {
                int j = k - way;
                if (j < 0 || j >= second.length) {
                    continue;
                }
                int[] v = POINTS[first[k]];
                for (int t = 0; t < speed * k; t++) {
                    v = times(v, POINTS[1]);
                }
                int[] f = POINTS[second[j]];
                int[] z = times(v, new int[] {f[0] * weights[j], -f[1] * weights[j]});
                re += z[0];
                im += z[1];
            }
            return new int[] {re, im};
        }

        private static int power(int[] z) {
            return z[0] * z[0] + z[1] * z[1];
        }

        int comes(int a, int b, int l, int way, int speed, int what) {
            if (!code(a) || !code(b) || !law(l) || !in(way, -23, 23) || !in(speed, 0, 3) || !in(what, 0, 2)) {
                return -1000000;
            }
            int[] z = come(codes.get(a), codes.get(b), weights(b, l), way, speed);
            return what == 2 ? power(z) : z[what];
        }

        int lobes(int c, int l, int what) {
            if (!code(c) || !law(l) || !in(what, 0, 4)) {
                return -1;
            }
            return lobe(codes.get(c), weights(c, l))[what];
        }

        private static int[] lobe(int[] code, int[] weights) {
            int side = 0;
            int sides = 0;
            int leak = 0;
            int peak = power(come(code, code, weights, 0, 0));
            for (int way = -23; way <= 23; way++) {
                for (int speed = 0; speed < 4; speed++) {
                    int power = power(come(code, code, weights, way, speed));
                    if (speed > 0) {
                        leak = Math.max(leak, power);
                    } else if (way != 0) {
                        side = Math.max(side, power);
                        sides += power;
                    }
                }
            }
            int squares = 0;
            for (int w : weights) {
                squares += w * w;
            }
            int loss = squares == 0 ? 0 : (int) (1000000L * peak / ((long) code.length * squares));
            return new int[] {peak, side, sides, leak, loss};
        }

        private static int[] ones(int[] code) {
            int[] ones = new int[code.length];
            Arrays.fill(ones, 1);
            return ones;
        }

        int hinder(int a, int b) {
            if (!code(a) || !code(b)) {
                return -1;
            }
            int most = 0;
            for (int way = -23; way <= 23; way++) {
                most = Math.max(most, power(come(codes.get(a), codes.get(b), ones(codes.get(b)), way, 0)));
            }
            return most;
        }

        int friends(int bound) {
            if (codes.isEmpty() || bound < 0) {
                return -1;
            }
            int best = 0;
            int[][] hinders = new int[codes.size()][codes.size()];
            for (int a = 0; a < codes.size(); a++) {
                for (int b = 0; b < codes.size(); b++) {
                    hinders[a][b] = hinder(a, b);
                }
            }
            for (int bits = 0; bits < 1 << codes.size(); bits++) {
                boolean good = true;
                for (int a = 0; a < codes.size(); a++) {
                    for (int b = 0; b < codes.size(); b++) {
                        good &= a == b || (bits >> a & 1) == 0 || (bits >> b & 1) == 0 || hinders[a][b] <= bound;
                    }
                }
                if (good && Integer.bitCount(bits) > Integer.bitCount(best)) {
                    best = bits;
                }
            }
            return best;
        }

        static int[] bestCode(int length) {
            return BEST.computeIfAbsent(length, n -> {
                int[] best = null;
                int many = 0;
                for (int bits = 0; bits < 1 << n; bits++) {
                    int side = 0;
                    int sides = 0;
                    for (int way = 1; way < n; way++) {
                        int sum = 0;
                        for (int k = way; k < n; k++) {
                            sum += ((bits >> n - 1 - k ^ bits >> n - 1 - k + way) & 1) == 0 ? 1 : -1;
                        }
                        side = Math.max(side, sum * sum);
                        sides += 2 * sum * sum;
                    }
                    many = best == null || side < best[1] ? 1 : side == best[1] ? many + 1 : many;
                    if (best == null || side < best[1] || side == best[1] && sides < best[2]) {
                        best = new int[] {bits, side, sides, 0};
                    }
                }
                best[3] = many;
                return best;
            });
        }

        int best(int length, int what) {
            return in(length, 2, 12) && in(what, 0, 3) ? bestCode(length)[what] : -1;
        }

        int filter(int c, int what) {
            if (!code(c) || codes.get(c).length > 6 || !in(what, 0, 3)) {
                return -1;
            }
            return filters.computeIfAbsent(c, key -> bestFilter(codes.get(key)))[what];
        }

        private static final Map<String, int[]> FILTERS = new HashMap<>();

        private static int[] bestFilter(int[] code) {
            return FILTERS.computeIfAbsent(Arrays.toString(code), key -> {
                int n = code.length;
                int all = (int) Math.round(Math.pow(5, n));
                int[] best = null;
                for (int number = 0; number < all; number++) {
                    int[] weights = new int[n];
                    int left = number;
                    for (int k = n - 1; k >= 0; k--) {
                        weights[k] = left % 5 - 2;
                        left /= 5;
                    }
                    int sum = Arrays.stream(weights).sum();
                    if (sum == 0) {
                        continue;
                    }
                    int side = 0;
                    for (int way = 1 - n; way < n; way++) {
                        side = way == 0 ? side : Math.max(side, power(come(code, code, weights, way, 0)));
                    }
                    int peak = sum * sum;
                    int loss = 1000000 * peak / (n * Arrays.stream(weights).map(w -> w * w).sum());
                    if (best == null || side * best[2] < best[1] * peak
                            || side * best[2] == best[1] * peak && loss > best[3]) {
                        best = new int[] {number, side, peak, loss};
                    }
                }
                return best;
            });
        }

        boolean set(int what, int v) {
            int[][] bounds = {{0, 9}, {1, 8}, {0, 3}, {1, 8}, {1, 16}, {0, 99}};
            if (!in(what, 0, 5) || !in(v, bounds[what][0], bounds[what][1])) {
                return false;
            }
            settings[what] = v;
            return true;
        }

        private boolean isSeen(int[] by, int r) {
            int seen = 0;
            for (int p : by) {
                seen += r % p >= settings[0] ? 1 : 0;
            }
            return seen >= settings[1];
        }

        private int manySeen(int[] by, int most) {
            int seen = 0;
            for (int r = 1; r <= most; r++) {
                seen += isSeen(by, r) ? 1 : 0;
            }
            return seen;
        }

        int seen(int s, int r) {
            return !set(s) || !in(r, 0, 999) ? -1 : isSeen(rests.get(s), r) ? 1 : 0;
        }

        int map(int s, int most, int what) {
            if (!set(s) || !in(most, 1, 999) || !in(what, 0, 1)) {
                return -1000000;
            }
            if (what == 0) {
                return manySeen(rests.get(s), most);
            }
            for (int r = 1; r <= most; r++) {
                if (!isSeen(rests.get(s), r)) {
                    return r;
                }
            }
            return -1;
        }

        int choice(int s, int k, int most, int what) {
            if (!set(s) || !in(k, 1, rests.get(s).length) || !in(most, 1, 999) || !in(what, 0, 1)) {
                return -1;
            }
            int[] all = rests.get(s);
            int best = -1;
            int bestSeen = -1;
            for (int bits = 0; bits < 1 << all.length; bits++) {
                if (Integer.bitCount(bits) == k) {
                    int chosen = bits;
                    int seen = manySeen(java.util.stream.IntStream.range(0, all.length).filter(i -> (chosen >> i & 1) == 1).map(i -> all[i]).toArray(), most);
                    if (seen > bestSeen) {
                        best = bits;
                        bestSeen = seen;
                    }
                }
            }
            return what == 0 ? best : bestSeen;
        }

        boolean read(int place, int v) {
            if (!in(place, 0, 7) || !in(v, -1, 98)) {
                return false;
            }
            readings[place] = v;
            return true;
        }

        int unfold(int s, int most, int wrongs, int by, int i) {
            if (!set(s) || !in(most, 0, 999) || !in(wrongs, 0, 8) || !in(by, 0, 9) || i < -1) {
                return -1;
            }
            int[] all = rests.get(s);
            for (int place = 0; place < 8; place++) {
                if (readings[place] >= 0 && (place >= all.length || readings[place] >= all[place])) {
                    return -1000000;
                }
            }
            List<Integer> ways = new ArrayList<>();
            for (int r = 0; r <= most; r++) {
                int off = 0;
                for (int place = 0; place < all.length; place++) {
                    boolean near = readings[place] < 0;
                    for (int d = -by; d <= by; d++) {
                        near |= Math.floorMod(r + d, all[place]) == readings[place];
                    }
                    off += near ? 0 : 1;
                }
                if (off <= wrongs) {
                    ways.add(r);
                }
            }
            return i == -1 ? ways.size() : i < ways.size() ? ways.get(i) : -1;
        }

        int ghosts(int s, int r1, int r2, int most) {
            if (!set(s) || !in(r1, 0, 999) || !in(r2, 0, 999) || !in(most, 0, 999)) {
                return -1;
            }
            int many = 0;
            for (int r = 0; r <= most; r++) {
                boolean ghost = r != r1 && r != r2;
                for (int p : rests.get(s)) {
                    ghost &= r % p == r1 % p || r % p == r2 % p;
                }
                many += ghost ? 1 : 0;
            }
            return many;
        }

        int stagger(int k, int low, int high, int most, int what) {
            if (!in(k, 1, 3) || !in(low, 2, 30) || !in(high, 2, 30) || (long) high - low + 1 < k || !in(most, 1, 300) || !in(what, 0, 1)) {
                return -1;
            }
            int[] best = {-1, -1};
            staggerFrom(k, low, high, most, new int[0], best);
            return best[what];
        }

        private void staggerFrom(int k, int low, int high, int most, int[] taken, int[] best) {
            if (taken.length == k) {
                int seen = manySeen(taken, most);
                if (seen > best[1]) {
                    best[0] = Arrays.stream(taken).reduce(0, (digits, one) -> digits * 100 + one);
                    best[1] = seen;
                }
                return;
            }
            for (int one = low; one <= high; one++) {
                int[] more = Arrays.copyOf(taken, taken.length + 1);
                more[taken.length] = one;
                staggerFrom(k, one + 1, high, most, more, best);
            }
        }

        private void act(List<Integer> next) {
            ahead.addLast(cells);
            if (ahead.size() > 30) {
                ahead.removeFirst();
            }
            behind.clear();
            cells = next;
        }

        int cell(int v) {
            if (!in(v, 0, 999) || cells.size() >= 40) {
                return -1;
            }
            List<Integer> next = new ArrayList<>(cells);
            next.add(v);
            act(next);
            return cells.size();
        }

        boolean change(int cell, int v) {
            if (!in(cell, 0, cells.size() - 1) || !in(v, 0, 999)) {
                return false;
            }
            List<Integer> next = new ArrayList<>(cells);
            next.set(cell, v);
            act(next);
            return true;
        }

        boolean draw(int many, int n, long seed) {
            if (!in(many, 1, 40) || !in(n, 1, 1000)) {
                return false;
            }
            List<Integer> next = new ArrayList<>();
            java.math.BigInteger x = java.math.BigInteger.valueOf(seed);
            java.math.BigInteger round = java.math.BigInteger.ONE.shiftLeft(64);
            for (int i = 0; i < many; i++) {
                x = x.multiply(new java.math.BigInteger("6364136223846793005")).add(new java.math.BigInteger("1442695040888963407")).mod(round);
                next.add(x.shiftRight(33).mod(java.math.BigInteger.valueOf(n)).intValueExact());
            }
            act(next);
            return true;
        }

        int at(int cell) {
            return in(cell, 0, cells.size() - 1) ? cells.get(cell) : -1;
        }

        int undo(boolean again) {
            ArrayDeque<List<Integer>> from = again ? behind : ahead;
            if (from.isEmpty()) {
                return -1;
            }
            (again ? ahead : behind).addLast(cells);
            cells = from.removeLast();
            return cells.size();
        }

        int found(int cell) {
            if (!in(cell, 0, cells.size() - 1)) {
                return -1;
            }
            List<Integer> window = new ArrayList<>();
            for (int other = 0; other < cells.size(); other++) {
                if (in(Math.abs(other - cell), settings[2] + 1, settings[2] + settings[3])) {
                    window.add(cells.get(other));
                }
            }
            if (window.size() < settings[4]) {
                return -1000000;
            }
            window.sort(null);
            return 10 * cells.get(cell) > settings[5] * window.get(settings[4] - 1) ? 1 : 0;
        }

        int alarms() {
            int many = 0;
            for (int cell = 0; cell < cells.size(); cell++) {
                many += found(cell) == 1 ? 1 : 0;
            }
            return many;
        }

        int heaps(int what) {
            StringBuilder s = new StringBuilder();
            for (int cell = 0; cell < cells.size(); cell++) {
                s.append(found(cell) == 1 ? 'x' : ' ');
            }
            String row = s.toString();
            TreeSet<Integer> lengths = new TreeSet<>(List.of(0));
            int many = 0;
            for (String heap : row.trim().split(" +")) {
                many += heap.isEmpty() ? 0 : 1;
                lengths.add(heap.length());
            }
            int longest = lengths.last();
            switch (what) {
                case 0:
                    return many;
                case 1:
                    return longest;
                case 2:
                    return longest == 0 ? -1 : row.indexOf("x".repeat(longest));
                default:
                    return -1000000;
            }
        }

        private static final Map<List<Integer>, Long> SHARES = new HashMap<>();

        private static long rowsAbove(int m, int levels, int order, int factor) {
            return SHARES.computeIfAbsent(List.of(m, levels, order, factor), key -> {
                long all = Math.round(Math.pow(levels, m + 1));
                long rows = 0;
                for (long row = 0; row < all; row++) {
                    long left = row;
                    int[] v = new int[m];
                    for (int i = 0; i < m; i++) {
                        v[i] = (int) (left % levels);
                        left /= levels;
                    }
                    Arrays.sort(v);
                    rows += 10 * left > (long) factor * v[order - 1] ? 1 : 0;
                }
                return rows;
            });
        }

        long share(int m, int levels, int order, int factor, int what) {
            if (!in(m, 1, 8) || !in(levels, 1, 9) || !in(order, 1, m) || !in(factor, 0, 99) || !in(what, 0, 1)) {
                return -1;
            }
            long rows = rowsAbove(m, levels, order, factor);
            return what == 0 ? rows : rows * 1000000 / Math.round(Math.pow(levels, m + 1));
        }

        int factor(int m, int levels, int order, int parts) {
            if (!in(m, 1, 8) || !in(levels, 1, 9) || !in(order, 1, m) || !in(parts, 0, 1000000)) {
                return -1;
            }
            for (int factor = 0; factor < 100; factor++) {
                if (share(m, levels, order, factor, 1) <= parts) {
                    return factor;
                }
            }
            return -1;
        }

        int beam(int time, int due, int worth) {
            if (!in(time, 1, 20) || !in(due, 1, 99) || !in(worth, 0, 99) || beams.size() == 8) {
                return -1;
            }
            beams.add(new int[] {time, due, worth});
            return beams.size() - 1;
        }

        int plan(int what) {
            if (beams.isEmpty() || !in(what, 0, 1)) {
                return -1;
            }
            int best = 0;
            int bestWorth = 0;
            boolean[] can = new boolean[1 << beams.size()];
            can[0] = true;
            for (int bits = 0; bits < can.length; bits++) {
                int time = 0;
                int worth = 0;
                for (int b = 0; b < beams.size(); b++) {
                    time += (bits >> b & 1) * beams.get(b)[0];
                    worth += (bits >> b & 1) * beams.get(b)[2];
                }
                // Some one of the set is done last; the others before it.
                for (int last = 0; last < beams.size(); last++) {
                    can[bits] |= (bits >> last & 1) == 1 && time <= beams.get(last)[1] && can[bits & ~(1 << last)];
                }
                if (can[bits] && worth > bestWorth) {
                    best = bits;
                    bestWorth = worth;
                }
            }
            return what == 0 ? bestWorth : best;
        }

        int like(int a, int b) {
            if (!code(a) || !code(b)) {
                return -1;
            }
            Set<List<Integer>> reached = new HashSet<>();
            ArrayDeque<List<Integer>> open = new ArrayDeque<>();
            open.add(Arrays.stream(codes.get(a)).boxed().toList());
            List<Integer> goal = Arrays.stream(codes.get(b)).boxed().toList();
            while (!open.isEmpty()) {
                List<Integer> code = open.poll();
                if (!reached.add(code)) {
                    continue;
                }
                List<Integer> turned = new ArrayList<>();
                List<Integer> back = new ArrayList<>();
                List<Integer> other = new ArrayList<>();
                List<Integer> quick = new ArrayList<>();
                for (int k = 0; k < code.size(); k++) {
                    turned.add((code.get(k) + 1) % 4);
                    back.add(code.get(code.size() - 1 - k));
                    other.add((4 - code.get(k)) % 4);
                    quick.add((code.get(k) + k) % 4);
                }
                open.addAll(List.of(turned, back, other, quick));
            }
            return reached.contains(goal) ? 1 : 0;
        }

        int partners(int a, int b) {
            if (!code(a) || !code(b) || codes.get(a).length != codes.get(b).length) {
                return -1;
            }
            int most = 0;
            for (int way = -23; way <= 23; way++) {
                int[] one = come(codes.get(a), codes.get(a), ones(codes.get(a)), way, 0);
                int[] two = come(codes.get(b), codes.get(b), ones(codes.get(b)), way, 0);
                most = way == 0 ? most : Math.max(most, power(new int[] {one[0] + two[0], one[1] + two[1]}));
            }
            return most;
        }

        int cancel(int m, int speed) {
            if (!in(m, 1, 8) || !in(speed, 0, 3)) {
                return -1;
            }
            int re = 0;
            int im = 0;
            int choices = 1;
            for (int k = 0; k <= m; k++) {
                int v = k % 2 == 0 ? choices : -choices;
                re += v * POINTS[speed * k % 4][0];
                im += v * POINTS[speed * k % 4][1];
                choices = choices * (m - k) / (k + 1);
            }
            return re * re + im * im;
        }

        int image() {
            image = new ArrayList<>(cells);
            return image.size();
        }

        int back() {
            if (image == null) {
                return -1;
            }
            act(new ArrayList<>(image));
            return cells.size();
        }

        int count(int what) {
            int[] counts = {codes.size(), laws.size(), rests.size(), tape.length(), cells.size(), beams.size(), ahead.size(), behind.size()};
            return in(what, 0, 7) ? counts[what] : -1000000;
        }
    }
}
