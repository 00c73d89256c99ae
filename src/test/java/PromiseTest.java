import java.util.NoSuchElementException;

/** Each promise of the document by itself: ordinary inputs, the edges that are named, wrong inputs. */
public final class PromiseTest {
    private static final int NONE = PulseParts.NONE;
    private static final int HIDDEN = PulseParts.HIDDEN;
    private static final int THROWN = -99;

    private static int wrong = 0;
    private static int promise = 0;

    public static void main(String[] args) {
        newObject();
        feed();
        end();
        codeFaults();
        lawFaults();
        restFaults();
        text();
        sign();
        rest();
        weight();
        worth();
        comes();
        lobes();
        hinder();
        friends();
        best();
        filter();
        set();
        seen();
        map();
        choice();
        read();
        unfold();
        ghosts();
        cell();
        change();
        draw();
        at();
        undo();
        found();
        alarms();
        share();
        beam();
        plan();
        like();
        partners();
        cancel();
        stagger();
        factor();
        heaps();
        image();
        back();
        count();
        refusedChangesNothing();
        readIsNotKept();
        apart();
        System.out.println(wrong == 0 ? "all promises hold" : wrong + " answers are not as due");
        if (wrong != 0) {
            System.exit(1);
        }
    }

    private static void due(String call, long got, long want) {
        if (got != want) {
            wrong++;
            System.out.println("promise " + promise + ": " + call + " answered " + got + ", due is " + want);
        }
    }

    private static void due(String call, boolean got, boolean want) {
        due(call, got ? 1 : 0, want ? 1 : 0);
    }

    /** Feeds a text (behind what the TAPE has). */
    private static void tape(PulseParts x, String text) {
        for (int from = 0; from < text.length(); from += 20) {
            int[] five = new int[5];
            for (int i = 0; i < 20 && from + i < text.length(); i++) {
                five[i / 4] |= text.charAt(from + i) << 24 - i % 4 * 8;
            }
            x.feed(five[0], five[1], five[2], five[3], five[4]);
        }
    }

    private static PulseParts with(int sort, String... texts) {
        return and(new PulseParts(), sort, texts);
    }

    private static PulseParts and(PulseParts x, int sort, String... texts) {
        for (String text : texts) {
            tape(x, text);
            if (x.text(sort) == NONE) {
                wrong++;
                System.out.println("promise " + promise + ": '" + text + "' was refused");
            }
        }
        return x;
    }

    private static void fault(int sort, String text, int want) {
        PulseParts x = new PulseParts();
        tape(x, text);
        due("fault(" + sort + ") of '" + text + "'", x.fault(sort), want);
        due("fault(" + sort + ") of '" + text + "' again", x.fault(sort), want);
        due("text(" + sort + ") of '" + text + "'", x.text(sort), want == NONE ? 0 : NONE);
        due("count(3) behind text(" + sort + ") of '" + text + "'", x.count(3), want == NONE ? 0 : text.length());
    }

    private static int signOf(PulseParts x, int code, int k) {
        try {
            return x.sign(code, k);
        } catch (NoSuchElementException e) {
            return THROWN;
        }
    }

    private static PulseParts cells(int... vs) {
        PulseParts x = new PulseParts();
        for (int v : vs) {
            x.cell(v);
        }
        return x;
    }

    private static void newObject() {
        promise = 1;
        PulseParts x = new PulseParts();
        for (int what = 0; what <= 7; what++) {
            due("count(" + what + ")", x.count(what), 0);
        }
        due("fault(0)", x.fault(0), 0);
        due("at(0)", x.at(0), NONE);
        due("back()", x.back(), NONE);
        due("undo(false)", x.undo(false), NONE);
        due("undo(true)", x.undo(true), NONE);
        due("alarms()", x.alarms(), 0);
        due("NONE", PulseParts.NONE, -1);
        due("HIDDEN", PulseParts.HIDDEN, -1000000);
        // BLIND and NEED are 1, GUARD 1, SIDE 3, ORDER 3, FACTOR 20 at first; no READING.
        and(x, 2, "5,7");
        due("seen(0, 10)", x.seen(0, 10), 1);
        due("seen(0, 35)", x.seen(0, 35), 0);
        due("unfold(0, 9, 0, 0, -1)", x.unfold(0, 9, 0, 0, NONE), 10);
        PulseParts y = cells(200, 100, 100, 100, 201, 100, 100);
        due("found(0), as much as 2.0 times 100", y.found(0), 0);
        due("found(4), more than 2.0 times 100", y.found(4), 1);
    }

    private static void feed() {
        promise = 2;
        PulseParts x = new PulseParts();
        due("feed of nothing", x.feed(0, 0, 0, 0, 0), 0);
        // "+-" in the first number's ends, "ij" in the last's: those of 0 are left out.
        due("feed with gaps", x.feed('+' << 24 | '-', 0, 0, 0, 'i' << 16 | 'j' << 8), 4);
        x.text(0);
        due("sign(0, 0)", signOf(x, 0, 0), 0);
        due("sign(0, 1)", signOf(x, 0, 1), 2);
        due("sign(0, 2)", signOf(x, 0, 2), 1);
        due("sign(0, 3)", signOf(x, 0, 3), 3);
        int all = 0x2b2b2b2b;
        for (int i = 1; i <= 5; i++) {
            due("feed of 20", x.feed(all, all, all, all, all), 20 * i);
        }
        due("feed of 19", x.feed(all, all, all, all, 0x2b2b2b00), 119);
        due("feed of 2 more", x.feed(0, 0, 0x2b2b, 0, 0), NONE);
        due("count(3)", x.count(3), 119);
        int two = '+' << 24 | '-';
        due("feed(two, 0, 0, 0, 0)", x.feed(two, 0, 0, 0, 0), NONE);
        due("feed(0, two, 0, 0, 0)", x.feed(0, two, 0, 0, 0), NONE);
        due("feed(0, 0, two, 0, 0)", x.feed(0, 0, two, 0, 0), NONE);
        due("feed(0, 0, 0, two, 0)", x.feed(0, 0, 0, two, 0), NONE);
        due("feed(0, 0, 0, 0, two)", x.feed(0, 0, 0, 0, two), NONE);
        due("feed of 1 more", x.feed(0, 0, 0, 0, 0xff), 120);
        due("feed of 1 more still", x.feed(1, 0, 0, 0, 0), NONE);
        due("feed of nothing", x.feed(0, 0, 0, 0, 0), 120);
        due("fault(0)", x.fault(0), 24);
        // Bytes above 127, each of the numbers below 0.
        PulseParts y = new PulseParts();
        due("feed(-1, -1, -1, -1, -1)", y.feed(-1, -1, -1, -1, -1), 20);
        due("feed(Integer.MIN_VALUE, ..)", y.feed(Integer.MIN_VALUE, 0, 0, 0, 0), 21);
        due("fault(0)", y.fault(0), 0);
    }

    private static void end() {
        promise = 3;
        PulseParts x = new PulseParts();
        due("end(0)", x.end(0), true);
        due("end(1)", x.end(1), false);
        tape(x, "+-?");
        due("end(-1)", x.end(-1), false);
        due("end(4)", x.end(4), false);
        due("end(Integer.MAX_VALUE)", x.end(Integer.MAX_VALUE), false);
        due("end(Integer.MIN_VALUE)", x.end(Integer.MIN_VALUE), false);
        due("count(3)", x.count(3), 3);
        due("end(3)", x.end(3), true);
        due("fault(0)", x.fault(0), 2);
        due("end(2)", x.end(2), true);
        due("count(3)", x.count(3), 2);
        due("fault(0)", x.fault(0), NONE);
        due("end(0)", x.end(0), true);
        due("count(3)", x.count(3), 0);
        due("fault(0)", x.fault(0), 0);
    }

    private static void codeFaults() {
        promise = 4;
        PulseParts x = new PulseParts();
        due("fault(-1)", x.fault(-1), -2);
        due("fault(3)", x.fault(3), -2);
        due("fault(Integer.MIN_VALUE)", x.fault(Integer.MIN_VALUE), -2);
        fault(0, "", 0);
        fault(0, "   ", 3);
        fault(0, "+", NONE);
        fault(0, "+-ij", NONE);
        fault(0, " + 3 - j 1 ", NONE);
        fault(0, "+0", 1);
        fault(0, "+ 0", 2);
        fault(0, "+12", 2);
        fault(0, "+1 2", 3);
        fault(0, "3+", 0);
        fault(0, "+k", 1);
        fault(0, "+I", 1);
        fault(0, "+\t-", 1);
        fault(0, "+9-9i6", NONE);
        fault(0, "+9-9i7", 5);
        fault(0, "+9-9i6j", 6);
        fault(0, "+9-9i6 j1", 7);
        fault(0, "+9-9i5j1", NONE);
        fault(0, "+9-9i5j2", 7);
        fault(0, "++++++++++++++++++++++++", NONE);
        fault(0, "+++++++++++++++++++++++++", 24);
        fault(0, "++++++++++++++++++++++++2", 24);
        fault(0, "++++++++++++++++++++++++1", NONE);
    }

    private static void lawFaults() {
        fault(1, "", 0);
        fault(1, "y", 1);
        fault(1, "y:", 2);
        fault(1, "Y:1", 0);
        fault(1, "y1", 1);
        fault(1, "y:1", NONE);
        fault(1, " y : 1 ; y : n ", NONE);
        fault(1, "y:1;", 4);
        fault(1, "y:1; ", 5);
        fault(1, "y:1;;", 4);
        fault(1, "y:1y:2", 3);
        fault(1, "y:1 2", 4);
        fault(1, "y:1234", NONE);
        fault(1, "y:0000", NONE);
        fault(1, "y:12345", 6);
        fault(1, "y:1+", 4);
        fault(1, "y:1++2", 4);
        fault(1, "y:-1", 2);
        fault(1, "y:k+n-a*b/2", NONE);
        fault(1, "y:c", 2);
        fault(1, "y:y", 2);
        fault(1, "y:?", 2);
        fault(1, "y:k?1", 3);
        fault(1, "y:k=", 4);
        fault(1, "y:k=1", 5);
        fault(1, "y:k=1;y:2", 5);
        fault(1, "y:k=1?", 6);
        fault(1, "y:k=1?2", NONE);
        fault(1, "y:k=1?2=3", 7);
        fault(1, "y:k=1?2?3", 7);
        fault(1, "y:k==1?2", 4);
        fault(1, "y:k<1=2?3", 5);
        fault(1, "y:k<1|n>2&a=0?b", NONE);
        fault(1, "y:k<1||n>2?b", 6);
        fault(1, "y:k<1&?b", 6);
        fault(1, "y:?1", 2);
        fault(1, "y:k=?1", 4);
        fault(1, "y:!?1", 3);
        fault(1, "y:!k=?1", 5);
        fault(1, "y:!=1?1", 3);
        fault(1, "y:k=1&=2?1", 6);
        fault(1, "y:k=1?;y:1", 6);
        fault(1, "y:k=1|!?1", 7);
        fault(1, "y:()?1", 3);
        fault(1, "y:!k", 4);
        fault(1, "y:!k=1?2", NONE);
        fault(1, "y:!k=1", 6);
        fault(1, "y:!!(!k=1)?2", NONE);
        fault(1, "y:(k=1)", 7);
        fault(1, "y:(k)=1?2", 4);
        fault(1, "y:(k=1)=1?2", 7);
        fault(1, "y:(k=1?2", 6);
        fault(1, "y:k+(1)?2", 4);
        fault(1, "y:k=1&(a=0|b=1)?[k+[n]]*2", NONE);
        fault(1, "y:[k", 4);
        fault(1, "y:[]", 3);
        fault(1, "y:[+1]", 3);
        fault(1, "y:1*[]", 5);
        fault(1, "y:1/;y:2", 4);
        fault(1, "y:[k=1]", 4);
        fault(1, "y:[k]>1?2", NONE);
        fault(1, "y:k]", 3);
        fault(1, "y:k)", 3);
        fault(1, "y:1\u00e9", 3);
        // A seventh of ( [ ! within one another.
        fault(1, "y:[[[[[[k]]]]]]", NONE);
        fault(1, "y:[[[[[[[k", 8);
        fault(1, "y:!!!!!!k=1?2", NONE);
        fault(1, "y:!!!!!!!k=1?2", 8);
        fault(1, "y:((((((k=1))))))?2", NONE);
        fault(1, "y:(((((((k=1", 8);
        fault(1, "y:!([!k", 5);
        fault(1, "y:(!(!([k]=1)))?[[[[[[1]]]]]]", NONE);
        fault(1, "y:(!(!([[k]]=1)))?1", 8);
        fault(1, "y:(!(!(![k]=1)))?1", 8);
        // Those that are over do not count.
        fault(1, "y:!!!!!!k=1&!!!!!!k=2?[1]+[2]+[3]+[4]+[5]+[6]+[7]", NONE);
    }

    private static void restFaults() {
        fault(2, "", 0);
        fault(2, " ", 1);
        fault(2, "2", NONE);
        fault(2, "99", NONE);
        fault(2, " 5 , 7 ", NONE);
        fault(2, "02", NONE);
        fault(2, "0", 0);
        fault(2, "1", 0);
        fault(2, "1,5", 0);
        fault(2, "1 2", 0);
        fault(2, "00", 1);
        fault(2, "01", 1);
        fault(2, "012", 1);
        fault(2, "10", NONE);
        fault(2, "100", 2);
        fault(2, "999", 2);
        fault(2, "1 0", 0);
        fault(2, "5 7", 2);
        fault(2, "5,", 2);
        fault(2, "5,,7", 2);
        fault(2, ",5", 0);
        fault(2, "5,1", 2);
        fault(2, "5;7", 1);
        fault(2, "5,-7", 2);
        fault(2, "2,3,4,5,6,7,8,9", NONE);
        fault(2, "2,3,4,5,6,7,8,9,", 15);
        fault(2, "2,3,4,5,6,7,8,9 ,10", 16);
        fault(2, "2,3,4,5,6,7,8,99", NONE);
        fault(2, "2,3,4,5,6,7,8,999", 16);
        // The FAULT is told though there are so many TEXTS.
        PulseParts x = with(2, "2", "3", "4", "5", "6", "7");
        tape(x, "8,1");
        due("fault(2) with six SETS", x.fault(2), 2);
        PulseParts y = with(0, "+", "+", "+", "+", "+", "+", "+", "-");
        tape(y, "+9+9+9");
        due("fault(0) with eight CODES", y.fault(0), 5);
        due("sign(7, 0)", signOf(y, 7, 0), 2);
    }

    private static void text() {
        promise = 5;
        PulseParts x = new PulseParts();
        due("text(0) of nothing", x.text(0), NONE);
        tape(x, "+-");
        due("text(-1)", x.text(-1), NONE);
        due("text(3)", x.text(3), NONE);
        due("text(1)", x.text(1), NONE);
        due("text(2)", x.text(2), NONE);
        due("count(3)", x.count(3), 2);
        due("text(0)", x.text(0), 0);
        due("count(3)", x.count(3), 0);
        due("count(0)", x.count(0), 1);
        for (int i = 1; i < 8; i++) {
            tape(x, "+2");
            due("text(0)", x.text(0), i);
        }
        tape(x, "+3");
        due("text(0), the ninth", x.text(0), NONE);
        due("count(0)", x.count(0), 8);
        due("count(3)", x.count(3), 2);
        x.end(0);
        for (int i = 0; i < 6; i++) {
            tape(x, "y:" + i);
            due("text(1)", x.text(1), i);
            tape(x, String.valueOf(2 + i));
            due("text(2)", x.text(2), i);
        }
        tape(x, "y:9");
        due("text(1), the seventh", x.text(1), NONE);
        due("count(3)", x.count(3), 3);
        due("weight(0, 5, 0)", x.weight(0, 5, 0), 5);
        x.end(0);
        tape(x, "9");
        due("text(2), the seventh", x.text(2), NONE);
        due("count(3)", x.count(3), 1);
        due("rest(5, 0)", x.rest(5, 0), 7);
    }

    private static void sign() {
        promise = 6;
        PulseParts x = with(0, "+i-j", "j2 -3", "+9-9i6");
        due("sign(0, -1)", signOf(x, 0, NONE), 4);
        for (int k = 0; k < 4; k++) {
            due("sign(0, " + k + ")", signOf(x, 0, k), k);
        }
        due("sign(0, 4)", signOf(x, 0, 4), THROWN);
        due("sign(0, -2)", signOf(x, 0, -2), THROWN);
        due("sign(1, -1)", signOf(x, 1, NONE), 5);
        due("sign(1, 1)", signOf(x, 1, 1), 3);
        due("sign(1, 2)", signOf(x, 1, 2), 2);
        due("sign(1, 4)", signOf(x, 1, 4), 2);
        due("sign(1, 5)", signOf(x, 1, 5), THROWN);
        due("sign(2, -1)", signOf(x, 2, NONE), 24);
        due("sign(2, 8)", signOf(x, 2, 8), 0);
        due("sign(2, 9)", signOf(x, 2, 9), 2);
        due("sign(2, 23)", signOf(x, 2, 23), 1);
        due("sign(2, 24)", signOf(x, 2, 24), THROWN);
        due("sign(3, -1)", signOf(x, 3, NONE), THROWN);
        due("sign(-1, 0)", signOf(x, -1, 0), THROWN);
        due("sign(Integer.MAX_VALUE, 0)", signOf(x, Integer.MAX_VALUE, 0), THROWN);
        due("sign(0, Integer.MIN_VALUE)", signOf(x, 0, Integer.MIN_VALUE), THROWN);
        // What is on the TAPE, or read for a FAULT, is no CODE yet.
        tape(x, "+5");
        x.fault(0);
        due("sign(3, 0)", signOf(x, 3, 0), THROWN);
    }

    private static void rest() {
        promise = 7;
        PulseParts x = with(2, "5,7,99", "2,3,4,5,6,7,8,9");
        due("rest(0, -1)", x.rest(0, NONE), 3);
        due("rest(0, 0)", x.rest(0, 0), 5);
        due("rest(0, 2)", x.rest(0, 2), 99);
        due("rest(0, 3)", x.rest(0, 3), NONE);
        due("rest(0, -2)", x.rest(0, -2), NONE);
        due("rest(1, -1)", x.rest(1, NONE), 8);
        due("rest(1, 7)", x.rest(1, 7), 9);
        due("rest(1, 8)", x.rest(1, 8), NONE);
        due("rest(2, 0)", x.rest(2, 0), NONE);
        due("rest(2, -1)", x.rest(2, NONE), NONE);
        due("rest(-1, 0)", x.rest(-1, 0), NONE);
    }

    private static void weight() {
        promise = 8;
        PulseParts x = and(with(0, "+i-j", "+9-9i6"), 1, "y:k", "y:n-2*k", "y:a*2+b*3", "y:k>1&k<3?7;y:a=0?5", "y:9-k-k-k");
        int[][] want = {{0, 1, 2, 3}, {4, 2, 0, -2}, {2, 3, -2, -3}, {0, 5, 7, 5}, {9, 6, 3, 0}};
        for (int law = 0; law < want.length; law++) {
            for (int k = 0; k < 4; k++) {
                due("weight(0, " + law + ", " + k + ")", x.weight(0, law, k), want[law][k]);
            }
        }
        due("weight(0, -1, 3)", x.weight(0, NONE, 3), 1);
        due("weight(0, 0, 4)", x.weight(0, 0, 4), HIDDEN);
        due("weight(0, -1, 4)", x.weight(0, NONE, 4), HIDDEN);
        due("weight(0, 0, -1)", x.weight(0, 0, -1), HIDDEN);
        due("weight(0, 5, 0)", x.weight(0, 5, 0), HIDDEN);
        due("weight(0, -2, 0)", x.weight(0, -2, 0), HIDDEN);
        due("weight(2, 0, 0)", x.weight(2, 0, 0), HIDDEN);
        due("weight(-1, 0, 0)", x.weight(-1, 0, 0), HIDDEN);
        // Held within -9 .. 9.
        due("weight(1, 0, 9)", x.weight(1, 0, 9), 9);
        due("weight(1, 0, 23)", x.weight(1, 0, 23), 9);
        due("weight(1, 1, 7)", x.weight(1, 1, 7), 9);
        due("weight(1, 1, 16)", x.weight(1, 1, 16), -8);
        due("weight(1, 1, 17)", x.weight(1, 1, 17), -9);
        due("weight(1, 4, 23)", x.weight(1, 4, 23), -9);
    }

    /** The WORTH of a LAW for the one SIGN of a CODE + (so k 0, n 1, a 1, b 0). */
    private static void worth(String law, int want) {
        PulseParts x = and(with(0, "+"), 1, law);
        due("weight by '" + law + "'", x.weight(0, 0, 0), want);
    }

    private static void worth() {
        worth("y:2+3*2", 8);
        worth("y:[2+3]*2-7", 3);
        worth("y:9-3-2", 4);
        worth("y:8/4/2", 1);
        worth("y:8/4*2", 4);
        worth("y:7/2", 3);
        worth("y:[0-7]/2", -3);
        worth("y:7/[0-2]", -3);
        worth("y:5/0", 0);
        worth("y:5/k+1", 1);
        worth("y:k+n+a+b", 2);
        worth("y:0007", 7);
        // Behind each sign numbers are within -1,000,000 .. 1,000,000.
        worth("y:9999*9999/9999*1/100", 1);
        worth("y:9999*9999-9999*99-9999-95", 5);
        worth("y:9999*9999+1-9999*100-95", 5);
        worth("y:9999*9999+9999-9999*9999+3", 3);
        worth("y:0-9999*9999-9999*9999+9999*100+95", -5);
        worth("y:[0-9999]*9999+9999*100+95", -5);
        worth("y:[1000*1000]*[1000*1000]/[1000*1000]", 1);
        // The first CLAUSE that holds; 0 without.
        worth("y:k=1?5", 0);
        worth("y:k=1?5;y:k=0?6;y:7", 6);
        worth("y:k=1?5;y:7;y:k=0?6", 7);
        worth("y:3;y:4", 3);
        worth("y:1<1?5;y:1>1?6;y:1=1?7", 7);
        worth("y:1<2?5", 5);
        worth("y:2>1?5", 5);
        worth("y:!1=1?5;y:6", 6);
        worth("y:!!1=1?5;y:6", 5);
        worth("y:1=1|1=2&1=2?5;y:6", 5);
        worth("y:(1=1|1=2)&1=2?5;y:6", 6);
        worth("y:1=2&1=2|1=1?5;y:6", 5);
        worth("y:!1=2&1=1?5;y:6", 5);
        worth("y:!1=1|1=1?5;y:6", 5);
        worth("y:!(1=1|1=1)?5;y:6", 6);
        worth("y:1=1&1=1&1=2?5;y:6", 6);
        worth("y:1=2|1=2|1=1?5;y:6", 5);
        worth("y:2+3=10/2?5;y:6", 5);
        worth("y:[[[[[[7]]]]]]", 7);
        worth(" y : 1 = 1 ? 2 + 2 ; y : 3 ", 4);
    }

    private static void comes() {
        promise = 9;
        PulseParts x = and(with(0, "+i-j", "+2-", "+9-9i6"), 1, "y:k+1");
        // Against itself: four times 1 at WAY 0; i times the one ahead at WAY 1.
        due("comes(0, 0, -1, 0, 0, 0)", x.comes(0, 0, NONE, 0, 0, 0), 4);
        due("comes(0, 0, -1, 1, 0, 0)", x.comes(0, 0, NONE, 1, 0, 0), 0);
        due("comes(0, 0, -1, 1, 0, 1)", x.comes(0, 0, NONE, 1, 0, 1), 3);
        due("comes(0, 0, -1, -1, 0, 1)", x.comes(0, 0, NONE, -1, 0, 1), -3);
        due("comes(0, 0, -1, 1, 0, 2)", x.comes(0, 0, NONE, 1, 0, 2), 9);
        due("comes(0, 0, -1, 2, 0, 0)", x.comes(0, 0, NONE, 2, 0, 0), -2);
        // SPEED 3 turns each SIGN of this CODE to 1.
        due("comes(0, 0, -1, 0, 3, 2)", x.comes(0, 0, NONE, 0, 3, 2), 0);
        due("comes(0, 1, -1, 0, 3, 0)", x.comes(0, 1, NONE, 0, 3, 0), 1);
        due("comes(0, 1, -1, 1, 3, 0)", x.comes(0, 1, NONE, 1, 3, 0), 1);
        due("comes(0, 1, -1, 2, 3, 0)", x.comes(0, 1, NONE, 2, 3, 0), 2);
        due("comes(0, 1, -1, 3, 3, 0)", x.comes(0, 1, NONE, 3, 3, 0), 1);
        due("comes(0, 1, -1, 4, 3, 0)", x.comes(0, 1, NONE, 4, 3, 0), 0);
        due("comes(0, 1, -1, -1, 3, 0)", x.comes(0, 1, NONE, -1, 3, 0), 0);
        due("comes(0, 1, -1, -2, 3, 0)", x.comes(0, 1, NONE, -2, 3, 0), -1);
        due("comes(0, 1, -1, -3, 3, 0)", x.comes(0, 1, NONE, -3, 3, 0), 0);
        // The FILTER is the second's: WEIGHTS 1, 2, 3 on + + -.
        due("comes(0, 1, 0, 1, 3, 0)", x.comes(0, 1, 0, 1, 3, 0), 0);
        due("comes(0, 1, 0, 2, 3, 0)", x.comes(0, 1, 0, 2, 3, 0), 3);
        due("comes(0, 1, 0, -2, 3, 0)", x.comes(0, 1, 0, -2, 3, 0), -3);
        // 1 of the first by 1; i by 2; -1 by -3.
        due("comes(0, 1, 0, 0, 0, 0)", x.comes(0, 1, 0, 0, 0, 0), 4);
        due("comes(0, 1, 0, 0, 0, 1)", x.comes(0, 1, 0, 0, 0, 1), 2);
        due("comes(0, 1, 0, 0, 0, 2)", x.comes(0, 1, 0, 0, 0, 2), 20);
        // The FILTER's imaginary part is turned round: 1; 2 by -i; 3 by 1.
        due("comes(1, 0, 0, 0, 0, 0)", x.comes(1, 0, 0, 0, 0, 0), 4);
        due("comes(1, 0, 0, 0, 0, 1)", x.comes(1, 0, 0, 0, 0, 1), -2);
        due("comes(2, 2, -1, 23, 0, 1)", x.comes(2, 2, NONE, 23, 0, 1), 1);
        due("comes(2, 2, -1, -23, 0, 1)", x.comes(2, 2, NONE, -23, 0, 1), -1);
        due("comes(2, 2, -1, 0, 0, 2)", x.comes(2, 2, NONE, 0, 0, 2), 576);
        int[][] wrongs = {{3, 0, 0, 0, 0, 0}, {0, 3, 0, 0, 0, 0}, {-1, 0, 0, 0, 0, 0}, {0, -1, 0, 0, 0, 0}, {0, 0, 1, 0, 0, 0},
            {0, 0, -2, 0, 0, 0}, {0, 0, 0, 24, 0, 0}, {0, 0, 0, -24, 0, 0}, {0, 0, 0, 0, 4, 0}, {0, 0, 0, 0, -1, 0},
            {0, 0, 0, 0, 0, 3}, {0, 0, 0, 0, 0, -1}, {0, 0, 0, Integer.MIN_VALUE, 0, 0}, {0, 0, 0, Integer.MAX_VALUE, 0, 0}};
        for (int[] w : wrongs) {
            due("comes" + java.util.Arrays.toString(w), x.comes(w[0], w[1], w[2], w[3], w[4], w[5]), HIDDEN);
        }
    }

    private static void lobes() {
        promise = 10;
        PulseParts x = and(with(0, "+3-2+-", "-", "i2", "+9-9i6"), 1, "y:k=0?1;y:0", "y:0", "y:2-k*2", "y:9");
        // Seven places of Barker's: sides -1 or 0.
        due("lobes(0, -1, 0)", x.lobes(0, NONE, 0), 49);
        due("lobes(0, -1, 1)", x.lobes(0, NONE, 1), 1);
        due("lobes(0, -1, 2)", x.lobes(0, NONE, 2), 6);
        due("lobes(0, -1, 4)", x.lobes(0, NONE, 4), 1000000);
        // A FILTER of the first place alone.
        due("lobes(0, 0, 0)", x.lobes(0, 0, 0), 1);
        due("lobes(0, 0, 1)", x.lobes(0, 0, 1), 1);
        due("lobes(0, 0, 2)", x.lobes(0, 0, 2), 6);
        due("lobes(0, 0, 3)", x.lobes(0, 0, 3), 1);
        due("lobes(0, 0, 4)", x.lobes(0, 0, 4), 142857);
        for (int what = 0; what <= 4; what++) {
            due("lobes(0, 1, " + what + ")", x.lobes(0, 1, what), 0);
        }
        due("lobes(1, -1, 0)", x.lobes(1, NONE, 0), 1);
        due("lobes(1, -1, 1)", x.lobes(1, NONE, 1), 0);
        due("lobes(1, -1, 2)", x.lobes(1, NONE, 2), 0);
        due("lobes(1, -1, 3)", x.lobes(1, NONE, 3), 1);
        // i, i with WEIGHTS 2, 0: 2 at WAYS 0 and 1; PEAK 4 of 2 times 4.
        due("lobes(2, 2, 0)", x.lobes(2, 2, 0), 4);
        due("lobes(2, 2, 1)", x.lobes(2, 2, 1), 4);
        due("lobes(2, 2, 2)", x.lobes(2, 2, 2), 4);
        due("lobes(2, 2, 3)", x.lobes(2, 2, 3), 4);
        due("lobes(2, 2, 4)", x.lobes(2, 2, 4), 500000);
        due("lobes(2, -1, 3)", x.lobes(2, NONE, 3), 2);
        // i, 1, 1 and j, 1, 1 with WEIGHTS 1, 2, 3: SIDE is at WAY -1, LEAK at SPEED 1 or 3.
        PulseParts y = and(with(0, "i+2", "j+2", "+4"), 1, "y:k+1", "y:2*k-2");
        int[] want = {36, 13, 28, 25, 857142};
        for (int what = 0; what <= 4; what++) {
            due("lobes(i++, k+1, " + what + ")", y.lobes(0, 0, what), want[what]);
            due("lobes(j++, k+1, " + what + ")", y.lobes(1, 0, what), want[what]);
        }
        // Four alike with WEIGHTS -2, 0, 2, 4: SPEED 2 leaves (2 + 4) at WAY -2.
        due("lobes(+4, 2*k-2, 0)", y.lobes(2, 1, 0), 16);
        due("lobes(+4, 2*k-2, 1)", y.lobes(2, 1, 1), 36);
        due("lobes(3, 3, 0)", x.lobes(3, 3, 0), 46656);
        due("lobes(3, 3, 4)", x.lobes(3, 3, 4), 1000000);
        due("lobes(0, 0, 5)", x.lobes(0, 0, 5), NONE);
        due("lobes(0, 0, -1)", x.lobes(0, 0, -1), NONE);
        due("lobes(4, 0, 0)", x.lobes(4, 0, 0), NONE);
        due("lobes(-1, 0, 0)", x.lobes(-1, 0, 0), NONE);
        due("lobes(0, 4, 0)", x.lobes(0, 4, 0), NONE);
        due("lobes(0, -2, 0)", x.lobes(0, -2, 0), NONE);
    }

    private static void hinder() {
        promise = 11;
        PulseParts x = and(with(0, "+3", "+-+-", "i3", "-"), 1, "y:0");
        due("hinder(0, 0)", x.hinder(0, 0), 9);
        due("hinder(0, 1)", x.hinder(0, 1), 1);
        due("hinder(1, 0)", x.hinder(1, 0), 1);
        due("hinder(0, 2)", x.hinder(0, 2), 9);
        due("hinder(1, 1)", x.hinder(1, 1), 16);
        due("hinder(0, 3)", x.hinder(0, 3), 1);
        due("hinder(0, 4)", x.hinder(0, 4), NONE);
        due("hinder(4, 0)", x.hinder(4, 0), NONE);
        due("hinder(-1, 0)", x.hinder(-1, 0), NONE);
        due("hinder(0, -1)", x.hinder(0, -1), NONE);
    }

    private static void friends() {
        promise = 12;
        due("friends(5) without CODES", new PulseParts().friends(5), NONE);
        PulseParts x = with(0, "+3", "+3", "+-+-", "-");
        due("friends(-1)", x.friends(-1), NONE);
        due("friends(Integer.MIN_VALUE)", x.friends(Integer.MIN_VALUE), NONE);
        due("friends(0)", x.friends(0), 1);
        // 0 and 1 HINDER one another by 9, any other two by 1.
        due("friends(1)", x.friends(1), 1 + 4 + 8);
        due("friends(8)", x.friends(8), 1 + 4 + 8);
        due("friends(9)", x.friends(9), 15);
        due("friends(Integer.MAX_VALUE)", x.friends(Integer.MAX_VALUE), 15);
        PulseParts y = with(0, "+9", "+9", "-", "i", "j", "+", "+8", "+7");
        due("friends(0) of eight", y.friends(0), 1);
        due("friends(1) of eight", y.friends(1), 1 + 4 + 8 + 16 + 32);
        due("friends(49) of eight", y.friends(49), 1 + 4 + 8 + 16 + 32 + 128);
    }

    private static void best() {
        promise = 13;
        PulseParts x = new PulseParts();
        // Of the lengths 2, 3, 4, 5, 7, 11 Barker's are the best, with SIDE 1.
        int[] ones = {2, 3, 4, 5, 7, 11};
        for (int length : ones) {
            due("best(" + length + ", 1)", x.best(length, 1), 1);
        }
        due("best(2, 0)", x.best(2, 0), 0);
        due("best(2, 2)", x.best(2, 2), 2);
        due("best(2, 3)", x.best(2, 3), 4);
        due("best(3, 0)", x.best(3, 0), 1);
        due("best(3, 2)", x.best(3, 2), 2);
        due("best(3, 3)", x.best(3, 3), 4);
        due("best(4, 0)", x.best(4, 0), 1);
        due("best(4, 3)", x.best(4, 3), 8);
        due("best(5, 0)", x.best(5, 0), 2);
        due("best(5, 3)", x.best(5, 3), 4);
        due("best(6, 1)", x.best(6, 1), 4);
        due("best(7, 0)", x.best(7, 0), 13);
        due("best(7, 2)", x.best(7, 2), 6);
        due("best(7, 3)", x.best(7, 3), 4);
        due("best(11, 0)", x.best(11, 0), 237);
        due("best(11, 2)", x.best(11, 2), 10);
        due("best(11, 3)", x.best(11, 3), 4);
        due("best(12, 1)", x.best(12, 1), 4);
        due("best(1, 0)", x.best(1, 0), NONE);
        due("best(13, 0)", x.best(13, 0), NONE);
        due("best(3, 4)", x.best(3, 4), NONE);
        due("best(3, -1)", x.best(3, -1), NONE);
        due("best(Integer.MAX_VALUE, 0)", x.best(Integer.MAX_VALUE, 0), NONE);
        due("best(Integer.MIN_VALUE, 0)", x.best(Integer.MIN_VALUE, 0), NONE);
    }

    private static void filter() {
        promise = 14;
        PulseParts x = with(0, "+2-", "j", "+2", "+6", "+7");
        due("filter(0, 0)", x.filter(0, 0), 26);
        due("filter(0, 1)", x.filter(0, 1), 1);
        due("filter(0, 2)", x.filter(0, 2), 16);
        due("filter(0, 3)", x.filter(0, 3), 888888);
        // One SIGN: -2 is the least number.
        due("filter(1, 0)", x.filter(1, 0), 0);
        due("filter(1, 1)", x.filter(1, 1), 0);
        due("filter(1, 2)", x.filter(1, 2), 4);
        due("filter(1, 3)", x.filter(1, 3), 1000000);
        // Two alike: 2, 2 has SIDE 4 of 16, as any even ones; -2, -2 is the least number.
        due("filter(2, 0)", x.filter(2, 0), 0);
        due("filter(2, 1)", x.filter(2, 1), 4);
        due("filter(2, 2)", x.filter(2, 2), 16);
        due("filter(3, 3)", x.filter(3, 3) > 0 ? 1 : 0, 1);
        due("filter(4, 0), seven SIGNS", x.filter(4, 0), NONE);
        due("filter(5, 0)", x.filter(5, 0), NONE);
        due("filter(-1, 0)", x.filter(-1, 0), NONE);
        due("filter(0, 4)", x.filter(0, 4), NONE);
        due("filter(0, -1)", x.filter(0, -1), NONE);
        // Here many have SIDE by PEAK 1 of 16, so LOSS tells.
        PulseParts y = with(0, "-+2-+", "-2+4");
        int[][] want = {{1386, 1, 16, 533333}, {6936, 1, 16, 444444}};
        for (int what = 0; what < 4; what++) {
            due("filter(-++-+, " + what + ")", y.filter(0, what), want[0][what]);
            due("filter(--++++, " + what + ")", y.filter(1, what), want[1][what]);
        }
        // What is asked first, or of which CODE, does not matter.
        due("filter(0, 0)", x.filter(0, 0), 26);
    }

    private static void set() {
        promise = 15;
        PulseParts x = new PulseParts();
        int[] least = {0, 1, 0, 1, 1, 0};
        int[] greatest = {9, 8, 3, 8, 16, 99};
        for (int what = 0; what < 6; what++) {
            due("set(" + what + ", least)", x.set(what, least[what]), true);
            due("set(" + what + ", greatest)", x.set(what, greatest[what]), true);
            due("set(" + what + ", below)", x.set(what, least[what] - 1), false);
            due("set(" + what + ", above)", x.set(what, greatest[what] + 1), false);
            due("set(" + what + ", Integer.MIN_VALUE)", x.set(what, Integer.MIN_VALUE), false);
        }
        due("set(-1, 1)", x.set(-1, 1), false);
        due("set(6, 1)", x.set(6, 1), false);
        due("set(Integer.MAX_VALUE, 1)", x.set(Integer.MAX_VALUE, 1), false);
        // Each does its own thing.
        PulseParts y = and(cells(5, 5, 5, 5, 50, 5, 5, 5, 5), 2, "5,7");
        y.set(0, 3);
        due("seen(0, 9) with BLIND 3", y.seen(0, 9), 1);
        due("seen(0, 15) with BLIND 3", y.seen(0, 15), 0);
        y.set(1, 2);
        due("seen(0, 9) with NEED 2", y.seen(0, 9), 0);
        due("seen(0, 4) with NEED 2", y.seen(0, 4), 1);
        due("found(4)", y.found(4), 1);
        y.set(5, 99);
        due("found(4) with FACTOR 99", y.found(4), 1);
        y.set(2, 3);
        y.set(3, 1);
        due("found(4) with a WINDOW of two", y.found(4), HIDDEN);
        y.set(4, 2);
        due("found(4) with ORDER 2", y.found(4), 1);
        due("found(0) with ORDER 2", y.found(0), HIDDEN);
        y.set(4, 1);
        due("found(0), against the 50", y.found(0), 0);
        due("found(1), against the 5", y.found(1), 0);
        y.set(5, 9);
        due("found(1) with FACTOR 9", y.found(1), 1);
    }

    private static void seen() {
        promise = 16;
        PulseParts x = with(2, "5,7", "9");
        due("seen(0, 0)", x.seen(0, 0), 0);
        due("seen(0, 5)", x.seen(0, 5), 1);
        due("seen(0, 35)", x.seen(0, 35), 0);
        due("seen(0, 999)", x.seen(0, 999), 1);
        due("seen(1, 999)", x.seen(1, 999), 0);
        due("seen(1, 998)", x.seen(1, 998), 1);
        due("seen(0, 1000)", x.seen(0, 1000), NONE);
        due("seen(0, -1)", x.seen(0, -1), NONE);
        due("seen(2, 1)", x.seen(2, 1), NONE);
        due("seen(-1, 1)", x.seen(-1, 1), NONE);
        x.set(0, 0);
        due("seen(0, 35) with BLIND 0", x.seen(0, 35), 1);
        x.set(0, 9);
        due("seen(1, 8) with BLIND 9", x.seen(1, 8), 0);
        x.set(0, 8);
        due("seen(1, 8) with BLIND 8", x.seen(1, 8), 1);
        x.set(1, 2);
        due("seen(1, 8) with NEED 2 of one", x.seen(1, 8), 0);
    }

    private static void map() {
        promise = 17;
        PulseParts x = with(2, "5,7");
        due("map(0, 40, 0)", x.map(0, 40, 0), 39);
        due("map(0, 40, 1)", x.map(0, 40, 1), 35);
        due("map(0, 34, 0)", x.map(0, 34, 0), 34);
        due("map(0, 34, 1)", x.map(0, 34, 1), NONE);
        due("map(0, 35, 1)", x.map(0, 35, 1), 35);
        due("map(0, 1, 0)", x.map(0, 1, 0), 1);
        due("map(0, 999, 0)", x.map(0, 999, 0), 999 - 28);
        x.set(1, 2);
        due("map(0, 10, 0) with NEED 2", x.map(0, 10, 0), 7);
        due("map(0, 10, 1) with NEED 2", x.map(0, 10, 1), 5);
        x.set(0, 2);
        due("map(0, 10, 0) with BLIND 2", x.map(0, 10, 0), 4);
        due("map(0, 10, 1) with BLIND 2", x.map(0, 10, 1), 1);
        due("map(0, 0, 0)", x.map(0, 0, 0), HIDDEN);
        due("map(0, 1000, 0)", x.map(0, 1000, 0), HIDDEN);
        due("map(0, 10, 2)", x.map(0, 10, 2), HIDDEN);
        due("map(0, 10, -1)", x.map(0, 10, -1), HIDDEN);
        due("map(1, 10, 0)", x.map(1, 10, 0), HIDDEN);
        due("map(-1, 10, 0)", x.map(-1, 10, 0), HIDDEN);
    }

    private static void choice() {
        promise = 18;
        PulseParts x = with(2, "5,7,2", "2,3,4,5,6,7,8,9");
        due("choice(0, 1, 10, 0)", x.choice(0, 1, 10, 0), 2);
        due("choice(0, 1, 10, 1)", x.choice(0, 1, 10, 1), 9);
        // 5 and 7 see all of 10; so do 5 and 2 but for 10.
        due("choice(0, 2, 10, 0)", x.choice(0, 2, 10, 0), 3);
        due("choice(0, 2, 10, 1)", x.choice(0, 2, 10, 1), 10);
        due("choice(0, 3, 10, 0)", x.choice(0, 3, 10, 0), 7);
        due("choice(0, 4, 10, 0)", x.choice(0, 4, 10, 0), NONE);
        due("choice(0, 4, 10, 1)", x.choice(0, 4, 10, 1), NONE);
        // A CHOICE of 0 is no such one, whatever is asked of it.
        due("choice(0, 0, 10, 0)", x.choice(0, 0, 10, 0), NONE);
        due("choice(0, 0, 10, 1)", x.choice(0, 0, 10, 1), NONE);
        due("choice(0, 0, 1, 2)", x.choice(0, 0, 1, 2), NONE);
        due("choice(1, 0, 999, 0)", x.choice(1, 0, 999, 0), NONE);
        due("choice(0, -1, 10, 0)", x.choice(0, -1, 10, 0), NONE);
        due("choice(0, 2, 0, 0)", x.choice(0, 2, 0, 0), NONE);
        due("choice(0, 2, 1000, 0)", x.choice(0, 2, 1000, 0), NONE);
        due("choice(0, 2, 1, 1)", x.choice(0, 2, 1, 1), 1);
        due("choice(0, 2, 999, 1)", x.choice(0, 2, 999, 1), 999 - 28);
        due("choice(0, 2, 10, 2)", x.choice(0, 2, 10, 2), NONE);
        due("choice(0, 2, 10, -1)", x.choice(0, 2, 10, -1), NONE);
        due("choice(2, 1, 10, 0)", x.choice(2, 1, 10, 0), NONE);
        due("choice(-1, 1, 10, 0)", x.choice(-1, 1, 10, 0), NONE);
        // 1, 2 and 3 are all SEEN by 4 (and by those behind it): of several the least bits.
        due("choice(1, 1, 3, 0)", x.choice(1, 1, 3, 0), 4);
        due("choice(1, 8, 999, 0)", x.choice(1, 8, 999, 0), 255);
        x.set(1, 2);
        due("choice(0, 1, 10, 0) with NEED 2", x.choice(0, 1, 10, 0), 1);
        due("choice(0, 0, 10, 1) with NEED 2", x.choice(0, 0, 10, 1), NONE);
        due("choice(0, 1, 10, 1) with NEED 2", x.choice(0, 1, 10, 1), 0);
        due("choice(0, 2, 10, 1) with NEED 2", x.choice(0, 2, 10, 1), 7);
        due("choice(0, 3, 10, 1) with NEED 2", x.choice(0, 3, 10, 1), 9);
    }

    private static void read() {
        promise = 19;
        PulseParts x = with(2, "5,7");
        due("read(0, 3)", x.read(0, 3), true);
        due("unfold(0, 40, 0, 0, -1)", x.unfold(0, 40, 0, 0, NONE), 8);
        due("read(0, 4)", x.read(0, 4), true);
        due("unfold(0, 40, 0, 0, 0)", x.unfold(0, 40, 0, 0, 0), 4);
        due("read(0, 99)", x.read(0, 99), false);
        due("read(0, -2)", x.read(0, -2), false);
        due("read(-1, 3)", x.read(-1, 3), false);
        due("read(8, 3)", x.read(8, 3), false);
        due("read(Integer.MIN_VALUE, 3)", x.read(Integer.MIN_VALUE, 3), false);
        due("unfold(0, 40, 0, 0, 0)", x.unfold(0, 40, 0, 0, 0), 4);
        due("read(7, 98)", x.read(7, 98), true);
        due("unfold(0, 40, 0, 0, 0)", x.unfold(0, 40, 0, 0, 0), HIDDEN);
        due("read(7, -1)", x.read(7, NONE), true);
        due("read(0, -1)", x.read(0, NONE), true);
        due("unfold(0, 40, 0, 0, -1)", x.unfold(0, 40, 0, 0, NONE), 41);
        due("read(7, -1)", x.read(7, NONE), true);
    }

    private static void unfold() {
        promise = 20;
        PulseParts x = with(2, "5,7", "5,7,9", "99,2,3,4,5,6,7,8");
        x.read(0, 3);
        x.read(1, 2);
        due("unfold(0, 40, 0, 0, -1)", x.unfold(0, 40, 0, 0, NONE), 1);
        due("unfold(0, 40, 0, 0, 0)", x.unfold(0, 40, 0, 0, 0), 23);
        due("unfold(0, 40, 0, 0, 1)", x.unfold(0, 40, 0, 0, 1), NONE);
        due("unfold(0, 22, 0, 0, -1)", x.unfold(0, 22, 0, 0, NONE), 0);
        due("unfold(0, 22, 0, 0, 0)", x.unfold(0, 22, 0, 0, 0), NONE);
        due("unfold(0, 999, 0, 0, 27)", x.unfold(0, 999, 0, 0, 27), 23 + 35 * 27);
        due("unfold(0, 999, 0, 0, -1)", x.unfold(0, 999, 0, 0, NONE), 28);
        due("unfold(0, 40, 1, 0, -1)", x.unfold(0, 40, 1, 0, NONE), 13);
        due("unfold(0, 40, 1, 0, 0)", x.unfold(0, 40, 1, 0, 0), 2);
        due("unfold(0, 40, 2, 0, -1)", x.unfold(0, 40, 2, 0, NONE), 41);
        due("unfold(0, 40, 8, 0, -1)", x.unfold(0, 40, 8, 0, NONE), 41);
        due("unfold(0, 0, 8, 0, -1)", x.unfold(0, 0, 8, 0, NONE), 1);
        due("unfold(0, 40, 0, 1, -1)", x.unfold(0, 40, 0, 1, NONE), 11);
        due("unfold(0, 40, 0, 1, 10)", x.unfold(0, 40, 0, 1, 10), 38);
        due("unfold(0, 40, 0, 9, -1)", x.unfold(0, 40, 0, 9, NONE), 41);
        // A place without a READING is left out.
        due("unfold(1, 40, 0, 0, -1)", x.unfold(1, 40, 0, 0, NONE), 1);
        // Going round the REST: 4 and 0 of 5 are next to one another.
        x.read(0, 4);
        x.read(1, NONE);
        due("unfold(0, 10, 0, 1, 0)", x.unfold(0, 10, 0, 1, 0), 0);
        due("unfold(0, 10, 0, 1, 1)", x.unfold(0, 10, 0, 1, 1), 3);
        due("unfold(0, 10, 0, 1, -1)", x.unfold(0, 10, 0, 1, NONE), 7);
        x.read(0, 0);
        due("unfold(0, 10, 0, 1, -1), 0 told", x.unfold(0, 10, 0, 1, NONE), 7);
        // A READING that is not below its REST, or has none.
        x.read(0, 5);
        due("unfold(0, 40, 0, 0, -1), 5 of 5 told", x.unfold(0, 40, 0, 0, NONE), HIDDEN);
        due("unfold(0, 40, 8, 9, 999), 5 of 5 told", x.unfold(0, 40, 8, 9, 999), HIDDEN);
        due("unfold(2, 40, 0, 0, 0), 5 of 99 told", x.unfold(2, 40, 0, 0, 0), 5);
        x.read(0, NONE);
        x.read(2, 0);
        due("unfold(0, 40, 0, 0, -1), a third told", x.unfold(0, 40, 0, 0, NONE), HIDDEN);
        due("unfold(1, 40, 0, 0, -1), a third told", x.unfold(1, 40, 0, 0, NONE), 5);
        x.read(2, NONE);
        x.read(7, 7);
        due("unfold(2, 40, 0, 0, 0), an eighth told", x.unfold(2, 40, 0, 0, 0), 7);
        x.read(7, NONE);
        int[][] wrongs = {{3, 40, 0, 0, 0}, {-1, 40, 0, 0, 0}, {0, -1, 0, 0, 0}, {0, 1000, 0, 0, 0}, {0, 40, -1, 0, 0}, {0, 40, 9, 0, 0},
            {0, 40, 0, -1, 0}, {0, 40, 0, 10, 0}, {0, 40, 0, 0, -2}, {0, 40, 0, 0, 41}, {0, 40, 0, 0, Integer.MAX_VALUE}};
        for (int[] w : wrongs) {
            due("unfold" + java.util.Arrays.toString(w), x.unfold(w[0], w[1], w[2], w[3], w[4]), NONE);
        }
        due("unfold(0, 40, 0, 0, 40)", x.unfold(0, 40, 0, 0, 40), 40);
    }

    private static void ghosts() {
        promise = 21;
        PulseParts x = with(2, "5,7", "4");
        due("ghosts(0, 1, 2, 40)", x.ghosts(0, 1, 2, 40), 4);
        due("ghosts(0, 1, 2, 15)", x.ghosts(0, 1, 2, 15), 0);
        due("ghosts(0, 1, 2, 16)", x.ghosts(0, 1, 2, 16), 1);
        due("ghosts(0, 1, 1, 40)", x.ghosts(0, 1, 1, 40), 1);
        due("ghosts(0, 36, 1, 40)", x.ghosts(0, 36, 1, 40), 0);
        due("ghosts(0, 0, 999, 0)", x.ghosts(0, 0, 999, 0), 0);
        due("ghosts(0, 35, 999, 0)", x.ghosts(0, 35, 999, 0), 1);
        due("ghosts(1, 0, 1, 9)", x.ghosts(1, 0, 1, 9), 4);
        due("ghosts(2, 0, 1, 9)", x.ghosts(2, 0, 1, 9), NONE);
        due("ghosts(-1, 0, 1, 9)", x.ghosts(-1, 0, 1, 9), NONE);
        due("ghosts(0, -1, 1, 9)", x.ghosts(0, -1, 1, 9), NONE);
        due("ghosts(0, 1000, 1, 9)", x.ghosts(0, 1000, 1, 9), NONE);
        due("ghosts(0, 1, -1, 9)", x.ghosts(0, 1, -1, 9), NONE);
        due("ghosts(0, 1, 1000, 9)", x.ghosts(0, 1, 1000, 9), NONE);
        due("ghosts(0, 1, 2, -1)", x.ghosts(0, 1, 2, -1), NONE);
        due("ghosts(0, 1, 2, 1000)", x.ghosts(0, 1, 2, 1000), NONE);
        due("ghosts(1, 0, 0, 999)", x.ghosts(1, 0, 0, 999), 249);
    }

    private static void cell() {
        promise = 22;
        PulseParts x = new PulseParts();
        due("cell(-1)", x.cell(-1), NONE);
        due("cell(1000)", x.cell(1000), NONE);
        due("count(4)", x.count(4), 0);
        due("cell(0)", x.cell(0), 1);
        due("cell(999)", x.cell(999), 2);
        due("at(0)", x.at(0), 0);
        due("at(1)", x.at(1), 999);
        for (int i = 3; i <= 40; i++) {
            due("cell(7)", x.cell(7), i);
        }
        due("cell(7), the 41st", x.cell(7), NONE);
        due("count(4)", x.count(4), 40);
        due("at(39)", x.at(39), 7);
        due("at(0)", x.at(0), 0);
    }

    private static void change() {
        promise = 23;
        PulseParts x = cells(1, 2, 3);
        due("change(1, 999)", x.change(1, 999), true);
        due("at(1)", x.at(1), 999);
        due("at(0)", x.at(0), 1);
        due("at(2)", x.at(2), 3);
        due("change(3, 1)", x.change(3, 1), false);
        due("change(-1, 1)", x.change(-1, 1), false);
        due("change(0, -1)", x.change(0, -1), false);
        due("change(0, 1000)", x.change(0, 1000), false);
        due("count(6)", x.count(6), 4);
        due("change(0, 1), as it was", x.change(0, 1), true);
        due("count(6)", x.count(6), 5);
        due("change(0, 0)", x.change(0, 0), true);
        due("at(0)", x.at(0), 0);
    }

    private static void draw() {
        promise = 24;
        PulseParts x = cells(1, 2, 3, 4, 5);
        due("draw(3, 1000, 42)", x.draw(3, 1000, 42L), true);
        due("count(4)", x.count(4), 3);
        long seed = 42L;
        for (int i = 0; i < 3; i++) {
            seed = seed * 6364136223846793005L + 1442695040888963407L;
            due("at(" + i + ")", x.at(i), (seed >>> 33) % 1000);
        }
        due("at(3)", x.at(3), NONE);
        due("draw(1, 999, -1)", x.draw(1, 999, -1L), true);
        due("at(0)", x.at(0), (1442695040888963407L - 6364136223846793005L >>> 33) % 999);
        due("draw(40, 1, Long.MIN_VALUE)", x.draw(40, 1, Long.MIN_VALUE), true);
        due("count(4)", x.count(4), 40);
        due("at(39)", x.at(39), 0);
        due("draw(0, 5, 1)", x.draw(0, 5, 1L), false);
        due("draw(41, 5, 1)", x.draw(41, 5, 1L), false);
        due("draw(-1, 5, 1)", x.draw(-1, 5, 1L), false);
        due("draw(5, 0, 1)", x.draw(5, 0, 1L), false);
        due("draw(5, 1001, 1)", x.draw(5, 1001, 1L), false);
        due("count(4)", x.count(4), 40);
        due("count(6)", x.count(6), 8);
        // All is drawn by one ACT.
        due("undo(false)", x.undo(false), 1);
        due("undo(false)", x.undo(false), 3);
        due("undo(false)", x.undo(false), 5);
        due("at(4)", x.at(4), 5);
    }

    private static void at() {
        promise = 25;
        PulseParts x = cells(4, 0, 6);
        due("at(0)", x.at(0), 4);
        due("at(1)", x.at(1), 0);
        due("at(2)", x.at(2), 6);
        due("at(3)", x.at(3), NONE);
        due("at(-1)", x.at(-1), NONE);
        due("at(Integer.MAX_VALUE)", x.at(Integer.MAX_VALUE), NONE);
        x.undo(false);
        due("at(2), UNDONE", x.at(2), NONE);
    }

    private static void undo() {
        promise = 26;
        PulseParts x = cells(1, 2);
        x.change(0, 9);
        due("undo(true)", x.undo(true), NONE);
        due("undo(false)", x.undo(false), 2);
        due("at(0)", x.at(0), 1);
        due("undo(false)", x.undo(false), 1);
        due("undo(false)", x.undo(false), 0);
        due("undo(false)", x.undo(false), NONE);
        due("count(6)", x.count(6), 0);
        due("count(7)", x.count(7), 3);
        due("undo(true)", x.undo(true), 1);
        due("undo(true)", x.undo(true), 2);
        due("at(0)", x.at(0), 1);
        due("undo(true)", x.undo(true), 2);
        due("at(0)", x.at(0), 9);
        due("undo(true)", x.undo(true), NONE);
        due("count(6)", x.count(6), 3);
        // Another ACT ends AGAIN; what is refused does not.
        x.undo(false);
        x.cell(1000);
        x.change(5, 5);
        x.draw(0, 5, 5L);
        due("count(7)", x.count(7), 1);
        x.cell(3);
        due("count(7)", x.count(7), 0);
        due("undo(true)", x.undo(true), NONE);
        due("undo(false)", x.undo(false), 2);
        // The latest 30 alone.
        PulseParts y = new PulseParts();
        for (int i = 0; i < 35; i++) {
            y.cell(i);
        }
        due("count(6)", y.count(6), 30);
        for (int i = 34; i >= 5; i--) {
            due("undo(false)", y.undo(false), i);
        }
        due("undo(false), the 31st", y.undo(false), NONE);
        due("at(4)", y.at(4), 4);
        due("count(7)", y.count(7), 30);
        for (int i = 6; i <= 35; i++) {
            due("undo(true)", y.undo(true), i);
            due("at", y.at(i - 1), i - 1);
        }
        due("undo(true), the 31st", y.undo(true), NONE);
        due("count(6)", y.count(6), 30);
    }

    private static void found() {
        promise = 27;
        PulseParts x = cells(5, 5, 5, 5, 50, 5, 5, 5, 5);
        due("found(4)", x.found(4), 1);
        due("found(0)", x.found(0), 0);
        due("found(9)", x.found(9), NONE);
        due("found(-1)", x.found(-1), NONE);
        // Above, not as much: 10 times 10 against 20 times 5.
        x.change(4, 10);
        due("found(4), as much", x.found(4), 0);
        x.change(4, 11);
        due("found(4), more", x.found(4), 1);
        // WINDOWS that do not stand in order.
        PulseParts w = cells(7, 3, 9, 50, 60, 70, 1, 8, 2);
        w.set(3, 2);
        int[] rising = {1, 3, 8, 9};
        for (int order = 1; order <= 4; order++) {
            w.set(4, order);
            w.set(5, 10);
            w.change(4, rising[order - 1]);
            due("found(4), as much as the WINDOW's " + order, w.found(4), 0);
            w.change(4, rising[order - 1] + 1);
            due("found(4), more than the WINDOW's " + order, w.found(4), 1);
        }
        // The GUARD is left out, and what is farther than SIDE too.
        PulseParts y = cells(900, 1, 1, 1, 900, 40, 900, 2, 3, 4, 900);
        due("found(5) by 1, 1, 1", y.found(5), 1);
        y.set(4, 4);
        due("found(5) by the fourth, 2", y.found(5), 1);
        y.set(4, 6);
        y.set(5, 99);
        due("found(5) by 99 times the sixth, 4", y.found(5), 1);
        y.change(5, 39);
        due("found(5), less", y.found(5), 0);
        y.set(4, 7);
        due("found(5), a WINDOW of six", y.found(5), HIDDEN);
        y.set(3, 4);
        due("found(5), a WINDOW of eight, the seventh 900", y.found(5), 0);
        y.set(2, 0);
        y.set(3, 1);
        y.set(4, 2);
        y.set(5, 0);
        due("found(5), the two next to it", y.found(5), 1);
        due("found(0), one alone", y.found(0), HIDDEN);
        y.change(5, 0);
        due("found(5), FACTOR 0 and cell 0", y.found(5), 0);
        // The widest WINDOW.
        int[] row = new int[39];
        for (int i = 0; i < row.length; i++) {
            row[i] = i == 19 ? 500 : i;
        }
        PulseParts z = cells(row);
        z.set(2, 3);
        z.set(3, 8);
        z.set(4, 16);
        z.set(5, 99);
        due("found(19), by 30", z.found(19), 1);
        z.change(19, 297);
        due("found(19), as much as 9.9 times 30", z.found(19), 0);
        z.change(30, 29);
        due("found(19), by 29", z.found(19), 1);
        due("found(10)", z.found(10), HIDDEN);
        due("found(11)", z.found(11), 0);
        due("found(27)", z.found(27), 0);
        due("found(28)", z.found(28), HIDDEN);
    }

    private static void alarms() {
        promise = 28;
        due("alarms() without CELLS", new PulseParts().alarms(), 0);
        PulseParts x = cells(5, 5, 5, 5, 50, 5, 5, 5, 5);
        due("alarms()", x.alarms(), 1);
        x.set(4, 4);
        due("alarms() with ORDER 4", x.alarms(), 1);
        x.set(5, 0);
        due("alarms() with FACTOR 0: those with four or more in the WINDOW", x.alarms(), 5);
        x.set(4, 7);
        due("alarms(), none told", x.alarms(), 0);
    }

    private static void share() {
        promise = 29;
        PulseParts x = new PulseParts();
        due("share(1, 2, 1, 10, 0)", x.share(1, 2, 1, 10, 0), 1);
        due("share(1, 2, 1, 10, 1)", x.share(1, 2, 1, 10, 1), 250000);
        due("share(2, 3, 1, 10, 0)", x.share(2, 3, 1, 10, 0), 13);
        due("share(2, 3, 1, 10, 1)", x.share(2, 3, 1, 10, 1), 481481);
        due("share(2, 3, 2, 10, 0)", x.share(2, 3, 2, 10, 0), 5);
        due("share(1, 1, 1, 0, 0)", x.share(1, 1, 1, 0, 0), 0);
        due("share(1, 9, 1, 0, 0)", x.share(1, 9, 1, 0, 0), 72);
        // FACTOR 99: the ORDER-th must be 0.
        due("share(8, 9, 8, 99, 0)", x.share(8, 9, 8, 99, 0), 8);
        due("share(8, 9, 8, 99, 1)", x.share(8, 9, 8, 99, 1), 0);
        due("share(8, 9, 1, 99, 0)", x.share(8, 9, 1, 99, 0), 8L * (43046721 - 16777216));
        due("share(8, 9, 1, 0, 1)", x.share(8, 9, 1, 0, 1), 888888);
        due("share(1, 2, 1, 0, 1)", x.share(1, 2, 1, 0, 1), 500000);
        int[][] wrongs = {{0, 2, 1, 1, 0}, {9, 2, 1, 1, 0}, {1, 0, 1, 1, 0}, {1, 10, 1, 1, 0}, {2, 3, 0, 1, 0}, {2, 3, 3, 1, 0},
            {2, 3, 1, -1, 0}, {2, 3, 1, 100, 0}, {2, 3, 1, 1, 2}, {2, 3, 1, 1, -1}, {Integer.MIN_VALUE, 3, 1, 1, 0}};
        for (int[] w : wrongs) {
            due("share" + java.util.Arrays.toString(w), x.share(w[0], w[1], w[2], w[3], w[4]), NONE);
        }
    }

    private static void beam() {
        promise = 30;
        PulseParts x = new PulseParts();
        int[][] wrongs = {{0, 1, 1}, {21, 1, 1}, {1, 0, 1}, {1, 100, 1}, {1, 1, -1}, {1, 1, 100}, {-1, -1, -1}};
        for (int[] w : wrongs) {
            due("beam" + java.util.Arrays.toString(w), x.beam(w[0], w[1], w[2]), NONE);
        }
        due("count(5)", x.count(5), 0);
        due("beam(1, 1, 0)", x.beam(1, 1, 0), 0);
        due("beam(20, 99, 99)", x.beam(20, 99, 99), 1);
        for (int i = 2; i < 8; i++) {
            due("beam(1, 99, 1)", x.beam(1, 99, 1), i);
        }
        due("beam(1, 99, 1), the ninth", x.beam(1, 99, 1), NONE);
        due("count(5)", x.count(5), 8);
    }

    private static void plan() {
        promise = 31;
        PulseParts x = new PulseParts();
        due("plan(0)", x.plan(0), NONE);
        due("plan(1)", x.plan(1), NONE);
        x.beam(3, 2, 9);
        due("plan(0), none can be done", x.plan(0), 0);
        due("plan(1), none can be done", x.plan(1), 0);
        due("plan(2)", x.plan(2), NONE);
        due("plan(-1)", x.plan(-1), NONE);
        PulseParts alone = new PulseParts();
        alone.beam(3, 3, 5);
        due("plan(0), one as long as it may", alone.plan(0), 5);
        due("plan(1), one as long as it may", alone.plan(1), 1);
        PulseParts y = new PulseParts();
        y.beam(3, 3, 5);
        y.beam(2, 4, 4);
        y.beam(2, 5, 3);
        due("plan(0)", y.plan(0), 8);
        due("plan(1)", y.plan(1), 5);
        // What is told later may be due first.
        PulseParts z = new PulseParts();
        z.beam(2, 5, 1);
        z.beam(3, 3, 1);
        due("plan(0)", z.plan(0), 2);
        due("plan(1)", z.plan(1), 3);
        z.beam(1, 6, 0);
        due("plan(1), one of no WORTH", z.plan(1), 3);
        z.beam(5, 5, 2);
        due("plan(1), of two the least bits", z.plan(1), 3);
        z.beam(5, 5, 3);
        due("plan(1), the one of more", z.plan(1), 16);
        due("plan(0), the one of more", z.plan(0), 3);
        PulseParts all = new PulseParts();
        for (int i = 8; i >= 1; i--) {
            all.beam(1, i, 99);
        }
        due("plan(0), all", all.plan(0), 792);
        due("plan(1), all", all.plan(1), 255);
    }

    private static void like() {
        promise = 32;
        PulseParts x = with(0, "+2-", "+-+", "i2j", "-+2", "+i2", "+j-", "+3", "+2");
        due("like(0, 0)", x.like(0, 0), 1);
        due("like(0, 1)", x.like(0, 1), 0);
        due("like(0, 2), turned", x.like(0, 2), 1);
        due("like(2, 0), turned", x.like(2, 0), 1);
        due("like(0, 3), turned round", x.like(0, 3), 1);
        due("like(0, 4)", x.like(0, 4), 0);
        due("like(5, 6), by a SPEED", x.like(5, 6), 1);
        due("like(6, 5), by SPEED 3 alone", x.like(6, 5), 1);
        due("like(1, 6), by a SPEED", x.like(1, 6), 1);
        due("like(0, 6)", x.like(0, 6), 0);
        due("like(6, 7), unlike lengths", x.like(6, 7), 0);
        due("like(0, 8)", x.like(0, 8), NONE);
        due("like(8, 0)", x.like(8, 0), NONE);
        due("like(-1, 0)", x.like(-1, 0), NONE);
        due("like(0, -1)", x.like(0, -1), NONE);
        // Each one alone, and all of them: + + i - j is 0 0 1 2 3.
        PulseParts y = with(0, "+2i-j", "i2-j+", "j-i+2", "+2j-i", "+ij i j", "+-j2+", "+2-ij");
        due("like(0, 1), turned by i", y.like(0, 1), 1);
        due("like(0, 2), turned round", y.like(0, 2), 1);
        due("like(0, 3), imaginary parts", y.like(0, 3), 1);
        due("like(0, 4), by SPEED 1", y.like(0, 4), 1);
        due("like(0, 5)", y.like(0, 5), 0);
        due("like(0, 6)", y.like(0, 6), 0);
        // 0 0 1 3 0 1 turned round and with imaginary parts turned round is 3 0 1 3 0 0.
        PulseParts z = with(0, "+2ij+i", "j+ij+2", "i+ji+2", "+2ji+j", "+2ij+j");
        due("like(0, 1), both", z.like(0, 1), 1);
        due("like(0, 2), round", z.like(0, 2), 1);
        due("like(0, 3), imaginary parts", z.like(0, 3), 1);
        due("like(0, 4)", z.like(0, 4), 0);
    }

    private static void partners() {
        promise = 33;
        // Golay's partners: what comes of both together is 0 but at WAY 0.
        PulseParts x = with(0, "+3-", "+2-+", "+2-", "+", "i3j", "+i", "+4");
        tape(x, "y:5");
        x.text(1);
        x.lobes(0, 0, 0);
        due("partners(0, 1)", x.partners(0, 1), 0);
        due("partners(1, 0)", x.partners(1, 0), 0);
        due("partners(0, 0)", x.partners(0, 0), 4);
        due("partners(0, 4)", x.partners(0, 4), 4);
        due("partners(6, 6)", x.partners(6, 6), 36);
        due("partners(0, 6)", x.partners(0, 6), 16);
        due("partners(3, 3)", x.partners(3, 3), 0);
        due("partners(5, 5)", x.partners(5, 5), 4);
        due("partners(0, 2)", x.partners(0, 2), NONE);
        due("partners(0, 7)", x.partners(0, 7), NONE);
        due("partners(7, 0)", x.partners(7, 0), NONE);
        due("partners(-1, 0)", x.partners(-1, 0), NONE);
        due("partners(0, -1)", x.partners(0, -1), NONE);
    }

    private static void cancel() {
        promise = 34;
        PulseParts x = new PulseParts();
        int[][] want = {{0, 2, 4, 2}, {0, 4, 16, 4}, {0, 8, 64, 8}, {0, 16, 256, 16}, {0, 32, 1024, 32}, {0, 64, 4096, 64},
            {0, 128, 16384, 128}, {0, 256, 65536, 256}};
        for (int m = 1; m <= 8; m++) {
            for (int speed = 0; speed < 4; speed++) {
                due("cancel(" + m + ", " + speed + ")", x.cancel(m, speed), want[m - 1][speed]);
            }
        }
        due("cancel(0, 1)", x.cancel(0, 1), NONE);
        due("cancel(9, 1)", x.cancel(9, 1), NONE);
        due("cancel(1, 4)", x.cancel(1, 4), NONE);
        due("cancel(1, -1)", x.cancel(1, -1), NONE);
    }

    private static void stagger() {
        promise = 35;
        PulseParts x = new PulseParts();
        due("stagger(1, 2, 4, 12, 0)", x.stagger(1, 2, 4, 12, 0), 4);
        due("stagger(1, 2, 4, 12, 1)", x.stagger(1, 2, 4, 12, 1), 9);
        due("stagger(2, 2, 4, 12, 0)", x.stagger(2, 2, 4, 12, 0), 304);
        due("stagger(2, 2, 4, 12, 1)", x.stagger(2, 2, 4, 12, 1), 11);
        due("stagger(3, 2, 4, 12, 0)", x.stagger(3, 2, 4, 12, 0), 20304);
        due("stagger(3, 2, 4, 12, 1)", x.stagger(3, 2, 4, 12, 1), 11);
        due("stagger(3, 28, 30, 300, 0)", x.stagger(3, 28, 30, 300, 0), 282930);
        due("stagger(3, 2, 30, 300, 1)", x.stagger(3, 2, 30, 300, 1), 300);
        due("stagger(1, 30, 30, 300, 1)", x.stagger(1, 30, 30, 300, 1), 290);
        due("stagger(1, 2, 2, 1, 1)", x.stagger(1, 2, 2, 1, 1), 1);
        // 11 and 28 meet at 308 first.
        due("stagger(2, 2, 30, 300, 0)", x.stagger(2, 2, 30, 300, 0), 1128);
        due("stagger(2, 2, 30, 300, 1)", x.stagger(2, 2, 30, 300, 1), 300);
        x.set(1, 2);
        due("stagger(1, 5, 9, 12, 0) with NEED 2", x.stagger(1, 5, 9, 12, 0), 5);
        due("stagger(1, 5, 9, 12, 1) with NEED 2", x.stagger(1, 5, 9, 12, 1), 0);
        due("stagger(2, 2, 4, 12, 0) with NEED 2", x.stagger(2, 2, 4, 12, 0), 204);
        due("stagger(2, 2, 4, 12, 1) with NEED 2", x.stagger(2, 2, 4, 12, 1), 6);
        due("stagger(3, 2, 4, 12, 1) with NEED 2", x.stagger(3, 2, 4, 12, 1), 8);
        x.set(1, 3);
        due("stagger(3, 2, 4, 12, 1) with NEED 3", x.stagger(3, 2, 4, 12, 1), 4);
        x.set(1, 4);
        due("stagger(3, 2, 6, 12, 0) with NEED 4", x.stagger(3, 2, 6, 12, 0), 20304);
        due("stagger(3, 2, 6, 12, 1) with NEED 4", x.stagger(3, 2, 6, 12, 1), 0);
        x.set(1, 1);
        x.set(0, 3);
        due("stagger(1, 2, 5, 10, 0) with BLIND 3", x.stagger(1, 2, 5, 10, 0), 5);
        due("stagger(1, 2, 5, 10, 1) with BLIND 3", x.stagger(1, 2, 5, 10, 1), 4);
        int[][] wrongs = {{0, 2, 4, 12, 0}, {4, 2, 9, 12, 0}, {1, 1, 4, 12, 0}, {1, 2, 31, 12, 0}, {1, 31, 31, 12, 0}, {1, 4, 3, 12, 0},
            {2, 3, 3, 12, 0}, {3, 2, 3, 12, 0}, {1, 2, 4, 0, 0}, {1, 2, 4, 301, 0}, {1, 2, 4, 12, 2}, {1, 2, 4, 12, -1},
            {1, Integer.MIN_VALUE, Integer.MAX_VALUE, 12, 0}};
        for (int[] w : wrongs) {
            due("stagger" + java.util.Arrays.toString(w), x.stagger(w[0], w[1], w[2], w[3], w[4]), NONE);
        }
    }

    private static void factor() {
        promise = 36;
        PulseParts x = new PulseParts();
        // share(1, 2, 1, F, 1): 500000 with 0 .. 9 (10 against 0 or F), 250000 with 10 and more.
        due("factor(1, 2, 1, 1000000)", x.factor(1, 2, 1, 1000000), 0);
        due("factor(1, 2, 1, 500000)", x.factor(1, 2, 1, 500000), 0);
        due("factor(1, 2, 1, 499999)", x.factor(1, 2, 1, 499999), 10);
        due("factor(1, 2, 1, 250000)", x.factor(1, 2, 1, 250000), 10);
        due("factor(1, 2, 1, 249999)", x.factor(1, 2, 1, 249999), NONE);
        due("factor(1, 1, 1, 0)", x.factor(1, 1, 1, 0), 0);
        due("factor(1, 3, 1, 333333)", x.factor(1, 3, 1, 333333), 10);
        due("factor(1, 3, 1, 222222)", x.factor(1, 3, 1, 222222), 20);
        // With 70 there are 8 + 255 rows of 9 to the 9, cut to 0 of 10 to the 6; with 69 they are 8 + 2 times 255.
        due("factor(8, 9, 8, 0)", x.factor(8, 9, 8, 0), 70);
        due("factor(1, 2, 1, -1)", x.factor(1, 2, 1, -1), NONE);
        due("factor(1, 2, 1, 1000001)", x.factor(1, 2, 1, 1000001), NONE);
        due("factor(0, 2, 1, 0)", x.factor(0, 2, 1, 500000), NONE);
        due("factor(9, 2, 1, 0)", x.factor(9, 2, 1, 500000), NONE);
        due("factor(1, 0, 1, 0)", x.factor(1, 0, 1, 500000), NONE);
        due("factor(1, 10, 1, 0)", x.factor(1, 10, 1, 1000000), NONE);
        due("factor(2, 2, 0, 0)", x.factor(2, 2, 0, 500000), NONE);
        due("factor(2, 2, 3, 0)", x.factor(2, 2, 3, 500000), NONE);
    }

    private static void heaps() {
        promise = 37;
        PulseParts none = new PulseParts();
        due("heaps(0) without CELLS", none.heaps(0), 0);
        due("heaps(1) without CELLS", none.heaps(1), 0);
        due("heaps(2) without CELLS", none.heaps(2), NONE);
        due("heaps(3)", none.heaps(3), HIDDEN);
        due("heaps(-1)", none.heaps(-1), HIDDEN);
        PulseParts x = cells(9, 9, 1, 9, 9, 9, 1, 1, 9, 9, 9, 1, 9);
        x.set(2, 0);
        x.set(3, 8);
        x.set(4, 1);
        // By the least of the WINDOW, which is 1: FOUND is what is 9.
        due("heaps(0)", x.heaps(0), 4);
        due("heaps(1)", x.heaps(1), 3);
        due("heaps(2), the first of two", x.heaps(2), 3);
        x.change(0, 1);
        due("heaps(0)", x.heaps(0), 4);
        x.change(11, 9);
        due("heaps(0)", x.heaps(0), 3);
        due("heaps(1), at the end", x.heaps(1), 5);
        due("heaps(2), at the end", x.heaps(2), 8);
        PulseParts ends = cells(9, 1, 1, 1, 9);
        ends.set(2, 0);
        ends.set(3, 2);
        ends.set(4, 1);
        due("alarms() at the ends", ends.alarms(), 2);
        due("heaps(0) at the ends", ends.heaps(0), 2);
        due("heaps(2) at the ends", ends.heaps(2), 0);
        x.set(5, 99);
        due("heaps(0) with FACTOR 99", x.heaps(0), 0);
        due("heaps(1) with FACTOR 99", x.heaps(1), 0);
        due("heaps(2) with FACTOR 99", x.heaps(2), NONE);
    }

    private static void image() {
        promise = 38;
        PulseParts x = new PulseParts();
        due("image() of none", x.image(), 0);
        x.cell(5);
        due("back() to none", x.back(), 0);
        due("at(0)", x.at(0), NONE);
        x.cell(6);
        due("image()", x.image(), 1);
        due("count(6): an IMAGE is no ACT", x.count(6), 3);
        x.change(0, 7);
        x.cell(8);
        due("image(), instead of the one ahead", x.image(), 2);
        x.draw(5, 9, 1L);
        due("back()", x.back(), 2);
        due("at(0)", x.at(0), 7);
        due("at(1)", x.at(1), 8);
        // AGAIN lasts over an IMAGE, and the IMAGE over what is UNDONE.
        x.undo(false);
        x.image();
        due("count(7)", x.count(7), 1);
    }

    private static void back() {
        promise = 39;
        PulseParts x = cells(1, 2, 3);
        due("back() without an IMAGE", x.back(), NONE);
        due("count(6)", x.count(6), 3);
        x.image();
        x.change(1, 9);
        x.cell(4);
        x.undo(false);
        due("back()", x.back(), 3);
        due("at(1)", x.at(1), 2);
        due("count(6): an ACT", x.count(6), 5);
        due("count(7): AGAIN is over", x.count(7), 0);
        due("undo(false)", x.undo(false), 3);
        due("at(1)", x.at(1), 9);
        due("undo(true)", x.undo(true), 3);
        due("at(1)", x.at(1), 2);
        due("back() twice", x.back(), 3);
        due("back() thrice", x.back(), 3);
        due("count(6)", x.count(6), 7);
    }

    private static void count() {
        promise = 40;
        PulseParts x = and(and(and(with(0, "+", "-"), 1, "y:1", "y:2", "y:3"), 2, "2"), 0, "i");
        tape(x, "12345");
        x.cell(1);
        x.cell(2);
        x.cell(3);
        x.beam(1, 1, 1);
        x.beam(1, 1, 1);
        x.undo(false);
        int[] want = {3, 3, 1, 5, 2, 2, 2, 1};
        for (int what = 0; what < 8; what++) {
            due("count(" + what + ")", x.count(what), want[what]);
        }
        due("count(-1)", x.count(-1), HIDDEN);
        due("count(8)", x.count(8), HIDDEN);
        due("count(Integer.MIN_VALUE)", x.count(Integer.MIN_VALUE), HIDDEN);
    }

    /** What is refused changes nothing: all that can be seen stays as it is. */
    private static void refusedChangesNothing() {
        promise = 0;
        PulseParts x = and(and(with(0, "+i", "-2"), 1, "y:k+2"), 2, "5,7");
        cellsAndMore(x);
        String ahead = look(x);
        x.end(99);
        x.end(-1);
        x.fault(9);
        x.fault(0);
        x.fault(1);
        x.fault(2);
        x.text(0);
        x.text(1);
        x.text(2);
        x.text(7);
        x.set(0, 10);
        x.set(9, 1);
        x.read(8, 1);
        x.read(1, 99);
        x.cell(1000);
        x.change(40, 1);
        x.change(0, 1000);
        x.draw(41, 1, 1L);
        x.draw(1, 1001, 1L);
        x.beam(21, 1, 1);
        x.stagger(2, 3, 3, 5, 0);
        x.choice(0, 3, 10, 0);
        String behind = look(x);
        if (!ahead.equals(behind)) {
            wrong++;
            System.out.println("what is refused changed something: " + ahead + " became " + behind);
        }
    }

    private static void cellsAndMore(PulseParts x) {
        x.cell(3);
        x.cell(4);
        x.image();
        x.cell(5);
        x.undo(false);
        x.beam(1, 2, 3);
        x.read(0, 3);
        tape(x, "+?");
    }

    /** A text that is looked at for its FAULT alone is no CODE, no LAW and no SET. */
    private static void readIsNotKept() {
        PulseParts x = with(0, "+2-");
        tape(x, "+-+");
        promise = 4;
        due("fault(0) of '+-+'", x.fault(0), NONE);
        due("sign(1, -1)", signOf(x, 1, NONE), THROWN);
        due("weight(1, -1, 0)", x.weight(1, NONE, 0), HIDDEN);
        due("comes(1, 0, -1, 0, 0, 0)", x.comes(1, 0, NONE, 0, 0, 0), HIDDEN);
        due("comes(0, 1, -1, 0, 0, 0)", x.comes(0, 1, NONE, 0, 0, 0), HIDDEN);
        due("lobes(1, -1, 0)", x.lobes(1, NONE, 0), NONE);
        due("filter(1, 0)", x.filter(1, 0), NONE);
        due("hinder(0, 1)", x.hinder(0, 1), NONE);
        due("friends(9)", x.friends(9), 1);
        due("like(0, 1)", x.like(0, 1), NONE);
        due("partners(0, 1)", x.partners(0, 1), NONE);
        due("partners(1, 0)", x.partners(1, 0), NONE);
        x.end(0);
        tape(x, "y:5");
        due("fault(1) of 'y:5'", x.fault(1), NONE);
        due("weight(0, 0, 0)", x.weight(0, 0, 0), HIDDEN);
        x.end(0);
        tape(x, "5,7");
        due("fault(2) of '5,7'", x.fault(2), NONE);
        due("rest(0, -1)", x.rest(0, NONE), NONE);
        due("seen(0, 5)", x.seen(0, 5), NONE);
        due("map(0, 40, 0)", x.map(0, 40, 0), HIDDEN);
        due("choice(0, 1, 10, 0)", x.choice(0, 1, 10, 0), NONE);
        due("unfold(0, 40, 0, 0, -1)", x.unfold(0, 40, 0, 0, NONE), NONE);
        due("ghosts(0, 1, 2, 40)", x.ghosts(0, 1, 2, 40), NONE);
    }

    private static String look(PulseParts x) {
        StringBuilder s = new StringBuilder();
        for (int what = 0; what < 8; what++) {
            s.append(x.count(what)).append(' ');
        }
        s.append(x.fault(0)).append(' ').append(x.fault(1)).append(' ').append(x.fault(2)).append(' ');
        s.append(signOf(x, 0, 1)).append(signOf(x, 1, 0)).append(x.weight(0, 0, 1)).append(x.rest(0, 1)).append(' ');
        s.append(x.at(0)).append(x.at(1)).append(x.seen(0, 5)).append(x.map(0, 99, 0)).append(' ');
        s.append(x.unfold(0, 40, 0, 0, NONE)).append(' ').append(x.alarms()).append(x.plan(0)).append(x.plan(1));
        return s.toString();
    }

    /** Objects do not know of one another. */
    private static void apart() {
        promise = 1;
        PulseParts one = with(0, "+-");
        PulseParts other = new PulseParts();
        other.set(0, 5);
        other.cell(3);
        due("count(0) of the other", other.count(0), 0);
        due("count(4) of the one", one.count(4), 0);
        PulseParts x = with(2, "91,92,93,94,95,96,97,98");
        for (int i = 0; i < 250; i++) {
            due("choice", x.choice(0, 4, 999, 1), 999);
            due("stagger", x.stagger(3, 2, 30, 300, 1), 300);
        }
    }
}
