/** Head 1 of the document, with promises 2 to 8: what TEXTS are, where they can't go on, how many are kept. */
public final class HeadOneTest {
    private static final int NONE = Bench.NONE;
    private static final int HIDDEN = Bench.HIDDEN;
    private static final int CODE = Bench.CODE;
    private static final int LAW = Bench.LAW;
    private static final int RESTS = Bench.RESTS;
    private static final String DIGITS = "0123456789";

    private static final Bench bench = new Bench();

    public static void main(String[] args) {
        tape();
        tapeCut();
        sorts();
        codesEight();
        signs();
        numbersOfSigns();
        signsInAll();
        placesOfCodes();
        lawsSix();
        clauses();
        conditions();
        atoms();
        opened();
        deepest();
        bounds();
        division();
        firstClause();
        restsSix();
        numbersOfRests();
        howManyRests();
        placesOfRests();
        blanks();
        endsTooEarly();
        fullTapes();
        conditionsByTable();
        readIsNotKept();
        shorterBehindLonger();
        bench.finish();
    }

    private static PulseParts fed(String text) {
        return Bench.tape(new PulseParts(), text);
    }

    /** Behind a text just those bytes can go on, of all there are but 0. */
    private static void goesOn(int sort, String text, String bytes) {
        for (int b = 1; b <= 255; b++) {
            int fault = fed(text + (char) b).fault(sort);
            boolean goes = bytes.indexOf(b) >= 0;
            if (goes) {
                boolean fits = fault == NONE || fault == text.length() + 1;
                bench.due("fault(" + sort + ") of '" + text + "' and " + b + " is " + fault + ": goes on", fits, true);
            } else {
                bench.due("fault(" + sort + ") of '" + text + "' and " + b, fault, text.length());
            }
        }
    }

    private static void tape() {
        bench.sentence("Twenty bytes more come to the TAPE .. NONE: more than 120.");
        int four = 0x2b2b2b2b;
        PulseParts x = new PulseParts();
        bench.due("feed of none", x.feed(0, 0, 0, 0, 0), 0);
        for (int i = 1; i <= 6; i++) {
            bench.due("feed of twenty", x.feed(four, four, four, four, four), 20 * i);
        }
        bench.due("feed of none, 120", x.feed(0, 0, 0, 0, 0), 120);
        int[] ones = {1, 0x100, 0x10000, 0x1000000, 0xff, Integer.MIN_VALUE};
        for (int one : ones) {
            for (int place = 0; place < 5; place++) {
                int[] five = new int[5];
                five[place] = one;
                bench.unchanged("feed of one byte, 120", () -> fed(Bench.times("+", 120)),
                        y -> y.feed(five[0], five[1], five[2], five[3], five[4]), NONE);
            }
        }
        for (int many = 101; many <= 119; many++) {
            String text = Bench.times("+", many);
            bench.unchanged("feed of twenty, " + many, () -> fed(text), y -> y.feed(four, four, four, four, four), NONE);
        }
        bench.unchanged("feed of two, 119", () -> fed(Bench.times("-", 119)), y -> y.feed(0, 0x2b00002b, 0, 0, 0), NONE);
        bench.due("feed of one, 119", fed(Bench.times("-", 119)).feed(0, 0, 0, 0, 0x2b), 120);
        bench.due("feed of twenty, 100", fed(Bench.times("-", 100)).feed(four, four, four, four, four), 120);

        bench.sentence("(of each number the highest first; bytes of 0 are left out)");
        PulseParts y = new PulseParts();
        bench.due("feed", y.feed('+' << 24 | 'i' << 16 | '-' << 8 | 'j', 'j' << 24, '-' << 16, 'i' << 8, '+'), 8);
        bench.due("text(0)", y.text(CODE), 0);
        int[] want = {0, 1, 2, 3, 3, 2, 1, 0};
        for (int k = 0; k < want.length; k++) {
            bench.due("sign(0, " + k + ")", Bench.signOf(y, 0, k), want[k]);
        }
        bench.due("feed of highest bits", new PulseParts().feed(0x80000000, 0x800000, 0x8000, 0x80, -1), 8);
    }

    private static void tapeCut() {
        bench.sentence("end: the TAPE has its first n bytes alone. False: n.");
        String text = "+-i?" + Bench.times("+", 116);
        bench.due("end(0), empty", new PulseParts().end(0), true);
        bench.unchanged("end(1), empty", PulseParts::new, x -> x.end(1) ? 1 : 0, 0);
        int[] wrongs = {-1, 121, Integer.MIN_VALUE, Integer.MAX_VALUE};
        for (int n : wrongs) {
            bench.unchanged("end(" + n + ") of 120", () -> fed(text), x -> x.end(n) ? 1 : 0, 0);
        }
        bench.unchanged("end(4) of 3", () -> fed("+-i"), x -> x.end(4) ? 1 : 0, 0);
        PulseParts x = fed(text);
        bench.due("end(120) of 120", x.end(120), true);
        bench.due("count(3)", x.count(3), 120);
        bench.due("fault(0)", x.fault(CODE), 3);
        bench.due("end(4)", x.end(4), true);
        bench.due("fault(0)", x.fault(CODE), 3);
        bench.due("end(3)", x.end(3), true);
        bench.due("count(3)", x.count(3), 3);
        bench.due("end(4), cut off", x.end(4), false);
        bench.due("feed behind what is left", x.feed('j', 0, 0, 0, 0), 4);
        bench.due("text(0)", x.text(CODE), 0);
        bench.due("sign(0, -1)", Bench.signOf(x, 0, NONE), 4);
        bench.due("sign(0, 3)", Bench.signOf(x, 0, 3), 3);
    }

    private static void sorts() {
        bench.sentence("fault: -2: no such sort; text: NONE: no such sort");
        int[] wrongs = {-1, 3, Integer.MIN_VALUE, Integer.MAX_VALUE};
        for (int sort : wrongs) {
            bench.unchanged("fault(" + sort + "), empty", PulseParts::new, x -> x.fault(sort), -2);
            bench.unchanged("text(" + sort + "), empty", PulseParts::new, x -> x.text(sort), NONE);
            bench.unchanged("fault(" + sort + ")", () -> fed("+"), x -> x.fault(sort), -2);
            bench.unchanged("text(" + sort + ")", () -> fed("+"), x -> x.text(sort), NONE);
        }
        bench.sentence("The FAULT of the TAPE as a CODE (0), a LAW (1), RESTS (2)");
        String[] texts = {"+", "y:1", "5"};
        for (int sort = 0; sort <= 2; sort++) {
            for (int of = 0; of <= 2; of++) {
                String text = texts[of];
                bench.due("fault(" + sort + ") of '" + text + "'", fed(text).fault(sort), of == sort ? NONE : 0);
                bench.due("text(" + sort + ") of '" + text + "'", fed(text).text(sort), of == sort ? 0 : NONE);
            }
            int asked = sort;
            bench.unchanged("text(" + sort + ") of '?'", () -> fed("?"), x -> x.text(asked), NONE);
            bench.unchanged("text(" + sort + ") of ''", PulseParts::new, x -> x.text(asked), NONE);
            bench.unchanged("fault(" + sort + ")", () -> fed(texts[asked]), x -> x.fault(asked), NONE);
        }
    }

    private static PulseParts codes(int many) {
        PulseParts x = new PulseParts();
        for (int i = 0; i < many; i++) {
            Bench.and(x, CODE, "+" + (i + 1));
        }
        return x;
    }

    private static void codesEight() {
        bench.sentence("CODES (8 at most)");
        for (int many = 0; many < 8; many++) {
            PulseParts x = Bench.tape(codes(many), "i");
            bench.due("text(0), " + many + " ahead", x.text(CODE), many);
            bench.due("count(0)", x.count(0), many + 1);
            bench.due("sign(" + many + ", 0)", Bench.signOf(x, many, 0), 1);
            bench.due("count(3)", x.count(3), 0);
        }
        bench.unchanged("text(0), 8 ahead", () -> Bench.tape(codes(8), "i"), x -> x.text(CODE), NONE);
        bench.unchanged("fault(0), 8 ahead", () -> Bench.tape(codes(8), "i3j"), x -> x.fault(CODE), NONE);
        bench.unchanged("fault(0) of a wrong one, 8 ahead", () -> Bench.tape(codes(8), "i3j?"), x -> x.fault(CODE), 3);
        PulseParts x = Bench.tape(codes(8), "y:1");
        bench.due("text(1), 8 CODES", x.text(LAW), 0);
        bench.due("text(2), 8 CODES", Bench.tape(x, "5").text(RESTS), 0);
    }

    private static void signs() {
        bench.sentence("ITEMS, one at least: a SIGN, + (1), - (-1), i, j (-i)");
        bench.fault(CODE, "", 0);
        bench.fault(CODE, "+", NONE);
        bench.fault(CODE, "-", NONE);
        bench.fault(CODE, "i", NONE);
        bench.fault(CODE, "j", NONE);
        goesOn(CODE, "", "+-ij ");
        goesOn(CODE, "+", "+-ij123456789 ");
        goesOn(CODE, "+ ", "+-ij123456789 ");
        goesOn(CODE, "+1", "+-ij ");
        goesOn(CODE, "j9", "+-ij ");
        goesOn(CODE, "-i", "+-ij123456789 ");
        PulseParts x = Bench.with(CODE, "+i-j");
        bench.due("weight by a", Bench.and(x, LAW, "y:a*2+b*3").weight(0, 0, 0), 2);
        bench.due("weight by a, i", x.weight(0, 0, 1), 3);
        bench.due("weight by a, -", x.weight(0, 0, 2), -2);
        bench.due("weight by a, j", x.weight(0, 0, 3), -3);
    }

    private static void numbersOfSigns() {
        bench.sentence("perhaps a number 1 .. 9: so many of it");
        for (int many = 1; many <= 9; many++) {
            PulseParts x = Bench.with(CODE, "-i" + many + "j");
            bench.due("sign(0, -1) of -i" + many + "j", Bench.signOf(x, 0, NONE), many + 2);
            bench.due("the first", Bench.signOf(x, 0, 0), 2);
            bench.due("the first of so many", Bench.signOf(x, 0, 1), 1);
            bench.due("the last of so many", Bench.signOf(x, 0, many), 1);
            bench.due("the one behind", Bench.signOf(x, 0, many + 1), 3);
        }
        bench.due("without a number", Bench.signOf(Bench.with(CODE, "i"), 0, NONE), 1);
        bench.sentence("FAULT: a 0 or a second digit behind a SIGN");
        bench.fault(CODE, "+0", 1);
        bench.fault(CODE, "+ 0", 2);
        bench.fault(CODE, "+3-0", 3);
        for (int second = 0; second <= 9; second++) {
            bench.fault(CODE, "+1" + second, 2);
            bench.fault(CODE, "+9" + second, 2);
            bench.fault(CODE, "+1 " + second, 3);
        }
    }

    private static void signsInAll() {
        bench.sentence("1 .. 24 SIGNS in all");
        for (int many = 1; many <= 24; many++) {
            PulseParts x = Bench.with(CODE, Bench.times("j", many));
            bench.due("sign(0, -1)", Bench.signOf(x, 0, NONE), many);
            bench.due("sign(0, last)", Bench.signOf(x, 0, many - 1), 3);
            bench.due("sign(0, one more)", Bench.signOf(x, 0, many), Bench.THROWN);
        }
        bench.due("sign(0, -1) of +9-9i6", Bench.signOf(Bench.with(CODE, "+9-9i6"), 0, NONE), 24);
        bench.sentence("FAULT: a SIGN or a digit with which there were more than 24 SIGNS");
        goesOn(CODE, Bench.times("+", 23), "+-ij12 ");
        goesOn(CODE, Bench.times("+", 24), "1 ");
        goesOn(CODE, Bench.times("+", 24) + "1", " ");
        goesOn(CODE, "+9-9i6", " ");
        goesOn(CODE, "+9-9i5", "+-ij ");
        goesOn(CODE, "+9-9i5j", "1 ");
        goesOn(CODE, "+9-9i", "+-ij123456 ");
        goesOn(CODE, "+9-8i", "+-ij1234567 ");
        goesOn(CODE, "+9-7i", "+-ij12345678 ");
        goesOn(CODE, "+9-6i", "+-ij123456789 ");
        bench.fault(CODE, "+9-9i6 ", NONE);
        bench.fault(CODE, "+9-9i6 +", 7);
        bench.fault(CODE, "+9-9i 7", 6);
        bench.fault(CODE, Bench.times("+", 25), 24);
        bench.fault(CODE, Bench.times("+", 120), 24);
    }

    private static void placesOfCodes() {
        bench.sentence("sign: NoSuchElementException: no such ones; how many there are (k NONE)");
        bench.unchanged("sign(0, -1) without CODES", PulseParts::new, x -> Bench.signOf(x, 0, NONE), Bench.THROWN);
        int[][] wrongs = {{-1, 0}, {-1, -1}, {2, 0}, {2, -1}, {8, 0}, {Integer.MAX_VALUE, 0}, {Integer.MIN_VALUE, -1},
            {0, 1}, {0, -2}, {1, 24}, {1, Integer.MAX_VALUE}, {1, Integer.MIN_VALUE}};
        for (int[] w : wrongs) {
            bench.unchanged("sign(" + w[0] + ", " + w[1] + ")", () -> Bench.with(CODE, "i", "+9-9i6"), x -> Bench.signOf(x, w[0], w[1]),
                    Bench.THROWN);
        }
        PulseParts x = Bench.with(CODE, "i", "+9-9i6");
        bench.due("sign(0, -1)", Bench.signOf(x, 0, NONE), 1);
        bench.due("sign(0, 0)", Bench.signOf(x, 0, 0), 1);
        bench.due("sign(1, -1)", Bench.signOf(x, 1, NONE), 24);
        bench.due("sign(1, 0)", Bench.signOf(x, 1, 0), 0);
        bench.due("sign(1, 23)", Bench.signOf(x, 1, 23), 1);
        PulseParts eight = codes(8);
        bench.due("sign(7, 7)", Bench.signOf(eight, 7, 7), 0);
        bench.due("sign(8, -1), eight CODES", Bench.signOf(eight, 8, NONE), Bench.THROWN);
    }

    private static PulseParts laws(int many) {
        PulseParts x = Bench.with(CODE, "+");
        for (int i = 0; i < many; i++) {
            Bench.and(x, LAW, "y:" + (i + 2));
        }
        return x;
    }

    private static void lawsSix() {
        bench.sentence("LAWS (6 at most)");
        for (int many = 0; many < 6; many++) {
            PulseParts x = Bench.tape(laws(many), "y:9");
            bench.due("text(1), " + many + " ahead", x.text(LAW), many);
            bench.due("count(1)", x.count(1), many + 1);
            bench.due("weight(0, " + many + ", 0)", x.weight(0, many, 0), 9);
            bench.due("weight(0, " + (many + 1) + ", 0)", x.weight(0, many + 1, 0), HIDDEN);
        }
        bench.unchanged("text(1), 6 ahead", () -> Bench.tape(laws(6), "y:9"), x -> x.text(LAW), NONE);
        bench.unchanged("fault(1), 6 ahead", () -> Bench.tape(laws(6), "y:9"), x -> x.fault(LAW), NONE);
        bench.unchanged("fault(1) of a wrong one, 6 ahead", () -> Bench.tape(laws(6), "y:9;"), x -> x.fault(LAW), 4);
        PulseParts x = laws(6);
        for (int law = 0; law < 6; law++) {
            bench.due("weight(0, " + law + ", 0)", x.weight(0, law, 0), law + 2);
        }
        bench.due("text(0), 6 LAWS", Bench.tape(x, "i").text(CODE), 1);
        bench.due("text(2), 6 LAWS", Bench.tape(x, "5").text(RESTS), 0);
    }

    private static void clauses() {
        bench.sentence("CLAUSES with ; between, one at least: y, : , perhaps CONDITION ?, then SUM");
        bench.fault(LAW, "", 0);
        bench.fault(LAW, ";", 0);
        bench.fault(LAW, "y:1", NONE);
        bench.fault(LAW, "y:1;", 4);
        bench.fault(LAW, ";y:1", 0);
        bench.fault(LAW, "y:1;;y:1", 4);
        bench.fault(LAW, "y:1;y:2", NONE);
        bench.fault(LAW, "y:1;2", 4);
        bench.fault(LAW, Bench.times("y:1;", 29) + "y:1", NONE);
        bench.fault(LAW, Bench.times("y:1;", 30), 120);
        goesOn(LAW, "", "y ");
        goesOn(LAW, "y", ": ");
        goesOn(LAW, "y:", DIGITS + "knab[!( ");
        goesOn(LAW, "y:1;", "y ");
        goesOn(LAW, "y:1;y", ": ");
        goesOn(LAW, "y:1;y:", DIGITS + "knab[!( ");
        goesOn(LAW, "y:k", "+-*/=<>; ");
        goesOn(LAW, "y:k=1?", DIGITS + "knab[ ");
        goesOn(LAW, "y:k=1?k", "+-*/; ");
        goesOn(LAW, "y:k=1?k;", "y ");
    }

    private static void conditions() {
        bench.sentence("CONDITION: TRUTHS with | between; TRUTH: UNITS with & between");
        goesOn(LAW, "y:k=n", "+-*/|&? ");
        goesOn(LAW, "y:k=n|", DIGITS + "knab[!( ");
        goesOn(LAW, "y:k=n&", DIGITS + "knab[!( ");
        goesOn(LAW, "y:k=n|k", "+-*/=<> ");
        goesOn(LAW, "y:k=n&k", "+-*/=<> ");
        goesOn(LAW, "y:k=n|k<n", "+-*/|&? ");
        goesOn(LAW, "y:k=n&k>n", "+-*/|&? ");
        bench.sentence("UNIT: ! UNIT, ( CONDITION ), or SUM, one of = < >, SUM");
        goesOn(LAW, "y:!", DIGITS + "knab[!( ");
        goesOn(LAW, "y:!k", "+-*/=<> ");
        goesOn(LAW, "y:!k=n", "+-*/|&? ");
        goesOn(LAW, "y:(", DIGITS + "knab[!( ");
        goesOn(LAW, "y:(k", "+-*/=<> ");
        goesOn(LAW, "y:(k=", DIGITS + "knab[ ");
        goesOn(LAW, "y:(k=n", "+-*/|&) ");
        goesOn(LAW, "y:(k=n|", DIGITS + "knab[!( ");
        goesOn(LAW, "y:(k=n)", "|&? ");
        goesOn(LAW, "y:((k=n)", "|&) ");
        goesOn(LAW, "y:k=", DIGITS + "knab[ ");
        goesOn(LAW, "y:k<", DIGITS + "knab[ ");
        goesOn(LAW, "y:k>", DIGITS + "knab[ ");
        goesOn(LAW, "y:k=n&!", DIGITS + "knab[!( ");
    }

    private static void atoms() {
        bench.sentence("SUM: TERMS with + or - between; TERM: ATOMS with * or / between");
        for (String sign : new String[] {"+", "-", "*", "/"}) {
            goesOn(LAW, "y:k" + sign, DIGITS + "knab[ ");
            goesOn(LAW, "y:k=k" + sign, DIGITS + "knab[ ");
            goesOn(LAW, "y:k" + sign + "n", "+-*/=<>; ");
            goesOn(LAW, "y:[k" + sign, DIGITS + "knab[ ");
        }
        bench.sentence("ATOM: a number (1 to 4 digits), a letter (k n a b), [ SUM ]; FAULT: a third digit (a fifth one in a LAW)");
        goesOn(LAW, "y:1", DIGITS + "+-*/=<>; ");
        goesOn(LAW, "y:12", DIGITS + "+-*/=<>; ");
        goesOn(LAW, "y:123", DIGITS + "+-*/=<>; ");
        goesOn(LAW, "y:1234", "+-*/=<>; ");
        goesOn(LAW, "y:0000", "+-*/=<>; ");
        goesOn(LAW, "y:k=1234", "+-*/|&? ");
        goesOn(LAW, "y:[1234", "+-*/] ");
        goesOn(LAW, "y:n", "+-*/=<>; ");
        goesOn(LAW, "y:a", "+-*/=<>; ");
        goesOn(LAW, "y:b", "+-*/=<>; ");
        goesOn(LAW, "y:[", DIGITS + "knab[ ");
        goesOn(LAW, "y:[k", "+-*/] ");
        goesOn(LAW, "y:[k]", "+-*/=<>; ");
        goesOn(LAW, "y:[[k]", "+-*/] ");
        worth("y:9999-9990", 9);
        worth("y:0009", 9);
        worth("y:0", 0);
        worth("y:10000-9998", null);
    }

    private static void opened() {
        bench.sentence("(A CLAUSE that goes on with ! or ( behind its : has a CONDITION.)");
        bench.fault(LAW, "y:(1)", 4);
        bench.fault(LAW, "y:(k)+1", 4);
        bench.fault(LAW, "y:(k=1)", 7);
        bench.fault(LAW, "y:(k=1)+1", 7);
        bench.fault(LAW, "y:(k=1);y:1", 7);
        bench.fault(LAW, "y:!k=1", 6);
        bench.fault(LAW, "y:!1", 4);
        bench.fault(LAW, "y:!1;", 4);
        bench.fault(LAW, "y: ( k = 1 ) ? 1", NONE);
        bench.fault(LAW, "y: ! k = 1 ? 1", NONE);
        bench.fault(LAW, "y:1;y:(1)", 8);
    }

    private static void deepest() {
        bench.sentence("At most six of ( [ ! within one another; FAULT: a seventh of ( [ !");
        String[][] six = {{"[[[[[[", "]]]]]]"}, {"!!!!!!", ""}, {"((((((", "))))))"}, {"!(!(!(", ")))"}, {"(((!!!", ")))"}};
        for (String[] s : six) {
            boolean sum = s[0].charAt(0) == '[';
            bench.fault(LAW, "y:" + s[0] + (sum ? "k" : "k=n") + s[1] + (sum ? "" : "?1"), NONE);
            goesOn(LAW, "y:" + s[0], DIGITS + "knab ");
        }
        goesOn(LAW, "y:!!!!!", DIGITS + "knab[!( ");
        goesOn(LAW, "y:(((((", DIGITS + "knab[!( ");
        goesOn(LAW, "y:[[[[[", DIGITS + "knab[ ");
        goesOn(LAW, "y:(!(![", DIGITS + "knab[ ");
        goesOn(LAW, "y:(!(![[", DIGITS + "knab ");
        goesOn(LAW, "y:!!!!!!k=", DIGITS + "knab ");
        goesOn(LAW, "y:!!!!!!k+", DIGITS + "knab ");
        // What is over does not count, and behind ? all are over.
        goesOn(LAW, "y:!!!!!!k=n&", DIGITS + "knab[!( ");
        goesOn(LAW, "y:((((((k=n)", "|&) ");
        goesOn(LAW, "y:((((((k=n)&", DIGITS + "knab[!( ");
        goesOn(LAW, "y:[[[[[[k]+", DIGITS + "knab[ ");
        goesOn(LAW, "y:!!!!!!k=n?", DIGITS + "knab[ ");
        bench.fault(LAW, "y:!!!!!!k=n?[[[[[[k]]]]]]", NONE);
        bench.fault(LAW, "y:!!!!!!k=n?[[[[[[[k", 18);
        bench.fault(LAW, "y:[1]+[1]+[1]+[1]+[1]+[1]+[1]+[1]", NONE);
        worth("y:[1]+[1]+[1]+[1]+[1]+[1]+[1]+[1]", 8);
        worth("y:[1+[1+[1+[1+[1+[1+1]]]]]]", 7);
        worth("y:!!!!!!1=1?5;y:6", 5);
        worth("y:!!!!!1=1?5;y:6", 6);
        worth("y:!(!(!(1=2)))?5;y:6", 5);
    }

    /** WORTH of a LAW at the one SIGN of +; null: it has a FAULT. */
    private static void worth(String law, Integer want) {
        PulseParts x = Bench.tape(Bench.with(CODE, "+"), law);
        int number = x.text(LAW);
        bench.due("text(1) of '" + law + "'", number, want == null ? NONE : 0);
        if (want != null) {
            bench.due("weight by '" + law + "'", x.weight(0, 0, 0), want);
        }
    }

    private static void bounds() {
        bench.sentence("Behind each sign numbers are within -1,000,000 .. 1,000,000");
        String top = "1000*1000";
        String bottom = "0-1000*1000";
        worth("y:" + top + "-9999*100=100?7;y:8", 7);
        worth("y:9999*100+99+1=" + top + "?7;y:8", 7);
        worth("y:9999*100+99<" + top + "?7;y:8", 7);
        worth("y:" + top + "+1=" + top + "?7;y:8", 7);
        worth("y:" + top + "+9999=" + top + "?7;y:8", 7);
        worth("y:" + top + "-1<" + top + "?7;y:8", 7);
        worth("y:" + top + "+1-1<" + top + "?7;y:8", 7);
        worth("y:1001*1000=" + top + "?7;y:8", 7);
        worth("y:9999*9999=" + top + "?7;y:8", 7);
        worth("y:" + top + "*1=" + top + "?7;y:8", 7);
        worth("y:[" + top + "]*[" + top + "]=" + top + "?7;y:8", 7);
        worth("y:" + bottom + "=[0-1000]*1000?7;y:8", 7);
        worth("y:" + bottom + "+1>" + bottom + "?7;y:8", 7);
        worth("y:" + bottom + "-1=" + bottom + "?7;y:8", 7);
        worth("y:" + bottom + "-9999+9999>" + bottom + "?7;y:8", 7);
        worth("y:[0-1001]*1000=" + bottom + "?7;y:8", 7);
        worth("y:[0-9999]*9999=" + bottom + "?7;y:8", 7);
        worth("y:[" + bottom + "]*[" + top + "]=" + bottom + "?7;y:8", 7);
        worth("y:[" + bottom + "]*[" + bottom + "]=" + top + "?7;y:8", 7);
        worth("y:[" + top + "]/[0-1]=" + bottom + "?7;y:8", 7);
        worth("y:9999*9999/9999/20", 5);
    }

    private static void division() {
        bench.sentence("/ cuts towards 0, by 0 gives 0");
        worth("y:7/2", 3);
        worth("y:[0-7]/2", -3);
        worth("y:7/[0-2]", -3);
        worth("y:[0-7]/[0-2]", 3);
        worth("y:1/2", 0);
        worth("y:[0-1]/2", 0);
        worth("y:6/2", 3);
        worth("y:[0-6]/2", -3);
        worth("y:0/5", 0);
        worth("y:5/0", 0);
        worth("y:0/0", 0);
        worth("y:[0-5]/0", 0);
        worth("y:5/k+2", 2);
        worth("y:1000*1000*1000/0+3", 3);
    }

    private static void firstClause() {
        bench.sentence("WORTH: the SUM of the first CLAUSE whose CONDITION holds (or has none), 0 without");
        worth("y:1=2?5", 0);
        worth("y:1=2?5;y:1=3?6", 0);
        worth("y:1=1?5;y:1=1?6", 5);
        worth("y:1=2?5;y:1=1?6;y:7", 6);
        worth("y:1=2?5;y:1=3?6;y:7", 7);
        worth("y:5;y:1=1?6", 5);
        worth("y:5;y:6", 5);
        worth(Bench.times("y:b>k?1;", 14) + "y:7", 7);
        worth(Bench.times("y:b>k?1;", 14) + "y:k>b?7", 0);
        worth("y:1<1?5;y:6", 6);
        worth("y:0<1?5;y:6", 5);
        worth("y:1>1?5;y:6", 6);
        worth("y:1>0?5;y:6", 5);
        worth("y:1=1?5;y:6", 5);
        worth("y:1=0?5;y:6", 6);
    }

    private static PulseParts sets(int many) {
        PulseParts x = new PulseParts();
        for (int i = 0; i < many; i++) {
            Bench.and(x, RESTS, String.valueOf(i + 2));
        }
        return x;
    }

    private static void restsSix() {
        bench.sentence("RESTS (6 at most)");
        for (int many = 0; many < 6; many++) {
            PulseParts x = Bench.tape(sets(many), "77");
            bench.due("text(2), " + many + " ahead", x.text(RESTS), many);
            bench.due("count(2)", x.count(2), many + 1);
            bench.due("rest(" + many + ", 0)", x.rest(many, 0), 77);
            bench.due("rest(" + (many + 1) + ", 0)", x.rest(many + 1, 0), NONE);
        }
        bench.unchanged("text(2), 6 ahead", () -> Bench.tape(sets(6), "77"), x -> x.text(RESTS), NONE);
        bench.unchanged("fault(2), 6 ahead", () -> Bench.tape(sets(6), "77,78"), x -> x.fault(RESTS), NONE);
        bench.unchanged("fault(2) of a wrong one, 6 ahead", () -> Bench.tape(sets(6), "77,78,1"), x -> x.fault(RESTS), 6);
        PulseParts x = sets(6);
        bench.due("text(0), 6 SETS", Bench.tape(x, "i").text(CODE), 0);
        bench.due("text(1), 6 SETS", Bench.tape(x, "y:1").text(LAW), 0);
    }

    private static void numbersOfRests() {
        bench.sentence("numbers 2 .. 99; FAULT: a number out of bounds at its last digit, a third digit");
        for (int v = 0; v <= 99; v++) {
            String digits = String.valueOf(v);
            bench.fault(RESTS, digits, v < 2 ? 0 : NONE);
            bench.fault(RESTS, digits + " ", v < 2 ? 0 : NONE);
            bench.fault(RESTS, "5," + digits, v < 2 ? 2 : NONE);
            bench.fault(RESTS, digits + ",5", v < 2 ? 0 : NONE);
            if (v >= 2) {
                bench.due("rest(0, 0) of " + v, Bench.with(RESTS, digits).rest(0, 0), v);
            }
        }
        for (int v = 0; v <= 9; v++) {
            bench.fault(RESTS, "0" + v, v < 2 ? 1 : NONE);
            bench.fault(RESTS, "0" + v + "5", v < 2 ? 1 : 2);
        }
        for (int third = 0; third <= 9; third++) {
            bench.fault(RESTS, "10" + third, 2);
            bench.fault(RESTS, "99" + third, 2);
            bench.fault(RESTS, "3,45" + third, 4);
            bench.fault(RESTS, "01" + third, 1);
        }
        goesOn(RESTS, "", "23456789 ");
        goesOn(RESTS, "5", DIGITS + ", ");
        goesOn(RESTS, "2", DIGITS + ", ");
        goesOn(RESTS, "9", DIGITS + ", ");
        goesOn(RESTS, "10", ", ");
        goesOn(RESTS, "99", ", ");
        goesOn(RESTS, "5,", "23456789 ");
        goesOn(RESTS, "5,99", ", ");
    }

    private static void howManyRests() {
        bench.sentence("numbers .. with , between, 1 .. 8; FAULT: the , ahead of a ninth number");
        bench.fault(RESTS, "", 0);
        bench.fault(RESTS, ",", 0);
        bench.fault(RESTS, ",5", 0);
        bench.fault(RESTS, "5,,6", 2);
        bench.fault(RESTS, "5 6", 2);
        String text = "9";
        for (int many = 1; many <= 8; many++) {
            bench.fault(RESTS, text, NONE);
            bench.fault(RESTS, text + ",", many < 8 ? text.length() + 1 : text.length());
            bench.due("rest(0, -1)", Bench.with(RESTS, text).rest(0, NONE), many);
            text = text + ",9";
        }
        bench.fault(RESTS, text, 15);
        goesOn(RESTS, "2,3,4,5,6,7,8,9", DIGITS + " ");
        goesOn(RESTS, "2,3,4,5,6,7,8,99", " ");
        goesOn(RESTS, "2,3,4,5,6,7,8", DIGITS + ", ");
    }

    private static void placesOfRests() {
        bench.sentence("rest: a number of RESTS; how many there are (i NONE). NONE: no such ones.");
        bench.unchanged("rest(0, -1) without RESTS", PulseParts::new, x -> x.rest(0, NONE), NONE);
        int[][] wrongs = {{-1, 0}, {-1, -1}, {2, 0}, {2, -1}, {6, 0}, {Integer.MIN_VALUE, 0}, {Integer.MAX_VALUE, -1}, {0, 1}, {0, -2},
            {1, 8}, {1, Integer.MAX_VALUE}, {1, Integer.MIN_VALUE}};
        for (int[] w : wrongs) {
            bench.unchanged("rest(" + w[0] + ", " + w[1] + ")", () -> Bench.with(RESTS, "5", "2,3,4,5,6,7,8,99"),
                    x -> x.rest(w[0], w[1]), NONE);
        }
        PulseParts x = Bench.with(RESTS, "5", "2,3,4,5,6,7,8,99");
        bench.due("rest(0, -1)", x.rest(0, NONE), 1);
        bench.due("rest(0, 0)", x.rest(0, 0), 5);
        bench.due("rest(1, -1)", x.rest(1, NONE), 8);
        bench.due("rest(1, 0)", x.rest(1, 0), 2);
        bench.due("rest(1, 7)", x.rest(1, 7), 99);
    }

    private static String spaced(String text) {
        StringBuilder s = new StringBuilder(" ");
        for (int i = 0; i < text.length(); i++) {
            s.append(text.charAt(i));
            boolean within = Character.isDigit(text.charAt(i)) && i + 1 < text.length() && Character.isDigit(text.charAt(i + 1));
            s.append(within ? "" : "  ");
        }
        return s.toString();
    }

    private static void blanks() {
        bench.sentence("Blanks (32) may stand between all signs, not within numbers");
        PulseParts x = Bench.with(CODE, spaced("+3-i2j"));
        bench.due("sign(0, -1)", Bench.signOf(x, 0, NONE), 7);
        bench.due("sign(0, 6)", Bench.signOf(x, 0, 6), 3);
        Bench.and(x, LAW, spaced("y:!(k=0|k>20)&[k-n]<0?k*2+10/5-a-b;y:3"));
        bench.due("weight(0, 0, 0)", x.weight(0, 0, 0), 3);
        bench.due("weight(0, 0, 1)", x.weight(0, 0, 1), 3);
        bench.due("weight(0, 0, 3)", x.weight(0, 0, 3), 9);
        Bench.and(x, RESTS, spaced("5,17,99"));
        bench.due("rest(0, -1)", x.rest(0, NONE), 3);
        bench.due("rest(0, 1)", x.rest(0, 1), 17);
        bench.fault(LAW, "y:1 2", 4);
        bench.fault(LAW, "y:12 3", 5);
        bench.fault(LAW, "y:1 23", 4);
        bench.fault(RESTS, "2 3", 2);
        bench.fault(RESTS, "1 2", 0);
        bench.fault(RESTS, "0 2", 0);
        bench.fault(RESTS, "5, 1 0", 3);
        bench.fault(CODE, "+ 2", NONE);
        bench.fault(CODE, "+1 2", 3);
        int[] others = {9, 10, 13, 31, 33, 95, 127, 160, 255};
        for (int b : others) {
            bench.fault(CODE, "+" + (char) b + "-", 1);
            bench.fault(LAW, "y" + (char) b + ":1", 1);
            bench.fault(RESTS, "5" + (char) b + ",6", 1);
        }
    }

    private static void endsTooEarly() {
        bench.sentence("FAULT: .. (the length, if it ends too early)");
        bench.fault(CODE, "   ", 3);
        bench.fault(CODE, Bench.times(" ", 120), 120);
        bench.fault(RESTS, "  ", 2);
        bench.fault(RESTS, "5, ", 3);
        bench.fault(LAW, " ", 1);
        bench.fault(LAW, "y:1; ", 5);
        // Where a LAW may be over: behind an ATOM that stands in no bracket, if a SUM may be the last.
        ends("y:1234+[k-2]*n/3", 3, 4, 5, 6, 12, 14, 16);
        ends("y:!(k=1|n<2&[a");
        ends("y:k=1?2;y:!!(a=b|k>3)&n<[4]?[[5]+6];y:7", 3, 7, 35, 39);
        bench.fault(LAW, "y:!(k=1|n<2&[a>0)", 14);
    }

    /** Each beginning of a LAW is whole, or it ends too early: its length is its FAULT. */
    private static void ends(String law, int... wholes) {
        for (int n = 0; n <= law.length(); n++) {
            boolean whole = false;
            for (int w : wholes) {
                whole |= w == n;
            }
            bench.fault(LAW, law.substring(0, n), whole ? NONE : n);
        }
    }

    private static void fullTapes() {
        bench.sentence("TEXTS of all the 120 bytes that a TAPE has");
        PulseParts x = Bench.with(CODE, Bench.times("j    ", 24), Bench.times("i 1  ", 24));
        bench.due("sign(0, -1)", Bench.signOf(x, 0, NONE), 24);
        bench.due("sign(0, 23)", Bench.signOf(x, 0, 23), 3);
        bench.due("sign(1, 23)", Bench.signOf(x, 1, 23), 1);
        Bench.and(x, LAW, "y:" + Bench.times("1+", 58) + "12", "y:" + Bench.times("0+", 58) + "07", "y:" + Bench.times("1-", 58) + "57");
        bench.due("weight by 58 times 1 and 12", x.weight(0, 0, 0), 9);
        bench.due("weight by 58 times 0 and 7", x.weight(0, 1, 0), 7);
        bench.due("weight by 1 less 57 times 1 less 57", x.weight(0, 2, 0), -9);
        bench.fault(LAW, "y:" + Bench.times("1+", 59), 120);
        Bench.and(x, RESTS, Bench.times(" ", 118) + "99", "99" + Bench.times(" ", 118));
        bench.due("rest(0, 0)", x.rest(0, 0), 99);
        bench.due("rest(1, 0)", x.rest(1, 0), 99);
    }

    private static boolean compares(int left, char sign, int right) {
        return sign == '=' ? left == right : sign == '<' ? left < right : left > right;
    }

    private static void conditionsByTable() {
        bench.sentence("TRUTHS with | between; UNITS with & between; ! UNIT, one of = < >: which of them hold");
        char[] signs = {'=', '<', '>'};
        for (char one : signs) {
            for (char other : signs) {
                for (int n = 0; n < 9; n++) {
                    int left = n % 3;
                    int right = n / 3;
                    boolean a = compares(left, one, 1);
                    boolean b = compares(right, other, 1);
                    String units = left + "" + one + "1";
                    String more = right + "" + other + "1";
                    worth("y:" + units + "&" + more + "?5;y:6", a && b ? 5 : 6);
                    worth("y:" + units + "|" + more + "?5;y:6", a || b ? 5 : 6);
                    worth("y:!" + units + "&" + more + "?5;y:6", !a && b ? 5 : 6);
                    worth("y:" + units + "|!" + more + "?5;y:6", a || !b ? 5 : 6);
                    worth("y:!(" + units + "&" + more + ")?5;y:6", a && b ? 6 : 5);
                    worth("y:" + units + "|" + more + "&0=1?5;y:6", a ? 5 : 6);
                    worth("y:0=1&" + units + "|" + more + "?5;y:6", b ? 5 : 6);
                }
            }
        }
    }

    /** What is read of the TAPE for its FAULT alone has no number yet. */
    private static PulseParts looked(int sort, String kept, String looked) {
        PulseParts x = Bench.and(sort == LAW ? Bench.with(CODE, "+2") : new PulseParts(), sort, kept);
        Bench.feed(x, looked);
        bench.due("fault(" + sort + ") of '" + looked + "'", x.fault(sort), NONE);
        return x;
    }

    private static void readIsNotKept() {
        bench.sentence("text: The TAPE .. is one of these: its number: ahead of text there is no such one");
        PulseParts x = looked(CODE, "+2", "+-");
        bench.due("sign(1, -1)", Bench.signOf(x, 1, NONE), Bench.THROWN);
        bench.due("sign(1, 0)", Bench.signOf(x, 1, 0), Bench.THROWN);
        bench.due("weight(1, -1, 0)", x.weight(1, NONE, 0), HIDDEN);
        bench.due("comes(1, 0, -1, 0, 0, 0)", x.comes(1, 0, NONE, 0, 0, 0), HIDDEN);
        bench.due("comes(0, 1, -1, 0, 0, 0)", x.comes(0, 1, NONE, 0, 0, 0), HIDDEN);
        bench.due("lobes(1, -1, 0)", x.lobes(1, NONE, 0), NONE);
        bench.due("hinder(0, 1)", x.hinder(0, 1), NONE);
        bench.due("hinder(1, 0)", x.hinder(1, 0), NONE);
        bench.due("friends(9)", x.friends(9), 1);
        bench.due("filter(1, 0)", x.filter(1, 0), NONE);
        bench.due("like(0, 1)", x.like(0, 1), NONE);
        bench.due("like(1, 0)", x.like(1, 0), NONE);
        bench.due("partners(0, 1)", x.partners(0, 1), NONE);
        bench.due("partners(1, 0)", x.partners(1, 0), NONE);
        bench.due("partners(1, 1)", x.partners(1, 1), NONE);
        PulseParts law = looked(LAW, "y:5", "y:6");
        bench.due("weight(0, 1, 0)", law.weight(0, 1, 0), HIDDEN);
        bench.due("comes(0, 0, 1, 0, 0, 0)", law.comes(0, 0, 1, 0, 0, 0), HIDDEN);
        bench.due("lobes(0, 1, 0)", law.lobes(0, 1, 0), NONE);
        bench.due("weight(0, 0, 0)", law.weight(0, 0, 0), 5);
        PulseParts rests = looked(RESTS, "5,7", "6,8");
        bench.due("rest(1, -1)", rests.rest(1, NONE), NONE);
        bench.due("rest(1, 0)", rests.rest(1, 0), NONE);
        bench.due("seen(1, 5)", rests.seen(1, 5), NONE);
        bench.due("map(1, 9, 0)", rests.map(1, 9, 0), HIDDEN);
        bench.due("choice(1, 1, 9, 0)", rests.choice(1, 1, 9, 0), NONE);
        bench.due("choice(1, 2, 9, 1)", rests.choice(1, 2, 9, 1), NONE);
        bench.due("unfold(1, 9, 0, 0, -1)", rests.unfold(1, 9, 0, 0, NONE), NONE);
        bench.due("ghosts(1, 1, 2, 9)", rests.ghosts(1, 1, 2, 9), NONE);
        bench.due("rest(0, 1)", rests.rest(0, 1), 7);
        bench.due("the TAPE with 3 bytes is there still", rests.text(RESTS), 1);
        bench.due("rest(1, 1)", rests.rest(1, 1), 8);
    }

    private static void shorterBehindLonger() {
        bench.sentence("text: one of these: nothing is left of a longer one that was kept, or looked at, ahead of it");
        String[] longer = {"+9-9i6", "y:1=2?5;y:n+7+7+7", "9,8,7,6,5,4,3,2"};
        String[] shorter = {"j", "y:1=2?5", "77"};
        for (int kept = 0; kept <= 2; kept++) {
            PulseParts x = Bench.with(CODE, "+");
            for (int sort = 0; sort <= 2; sort++) {
                Bench.feed(x, kept == 2 ? longer[sort] + "?" : longer[sort]);
                if (kept == 1) {
                    x.text(sort);
                } else {
                    x.fault(sort);
                }
                x.end(0);
                Bench.and(x, sort, shorter[sort]);
            }
            int code = x.count(0) - 1;
            int set = x.count(2) - 1;
            bench.due("sign(" + code + ", -1)", Bench.signOf(x, code, NONE), 1);
            bench.due("sign(" + code + ", 0)", Bench.signOf(x, code, 0), 3);
            bench.due("hinder(" + code + ", " + code + ")", x.hinder(code, code), 1);
            bench.due("weight by 'y:1=2?5'", x.weight(0, x.count(1) - 1, 0), 0);
            bench.due("rest(" + set + ", -1)", x.rest(set, NONE), 1);
            bench.due("rest(" + set + ", 0)", x.rest(set, 0), 77);
            bench.due("rest(" + set + ", 1)", x.rest(set, 1), NONE);
        }
    }
}
