import java.util.NoSuchElementException;
import java.util.function.Supplier;
import java.util.function.ToLongFunction;

/** What the tests by sentences use: answers that are due, texts for the TAPE, calls that are refused. */
final class Bench {
    static final int NONE = PulseParts.NONE;
    static final int HIDDEN = PulseParts.HIDDEN;
    /** What signOf answers when sign throws. */
    static final int THROWN = -99;
    static final int CODE = 0;
    static final int LAW = 1;
    static final int RESTS = 2;

    private String sentence = "";
    private int sentences;
    private int answers;
    private int wrong;

    /** The sentence of the document that the next answers are about. */
    void sentence(String words) {
        sentence = words;
        sentences++;
    }

    void due(String call, long got, long want) {
        answers++;
        if (got != want) {
            tell(call + " answered " + got + ", due is " + want);
        }
    }

    void due(String call, boolean got, boolean want) {
        due(call, got ? 1 : 0, want ? 1 : 0);
    }

    private void tell(String what) {
        wrong++;
        if (wrong <= 40) {
            System.out.println("'" + sentence + "': " + what);
        }
    }

    void finish() {
        System.out.println(sentences + " sentences, " + answers + " answers, " + wrong + " of them wrong");
        if (wrong != 0) {
            System.exit(1);
        }
    }

    /** Feeds a text behind what the TAPE has. */
    static void feed(PulseParts x, String text) {
        for (int from = 0; from < text.length(); from += 20) {
            int[] five = new int[5];
            for (int i = 0; i < 20 && from + i < text.length(); i++) {
                five[i / 4] |= text.charAt(from + i) << 24 - i % 4 * 8;
            }
            x.feed(five[0], five[1], five[2], five[3], five[4]);
        }
    }

    static PulseParts with(int sort, String... texts) {
        return and(new PulseParts(), sort, texts);
    }

    static PulseParts and(PulseParts x, int sort, String... texts) {
        for (String text : texts) {
            feed(x, text);
            if (x.text(sort) == NONE) {
                throw new IllegalStateException("'" + text + "' is refused as a text of the sort " + sort);
            }
        }
        return x;
    }

    static PulseParts tape(PulseParts x, String text) {
        feed(x, text);
        return x;
    }

    static PulseParts cells(int... vs) {
        PulseParts x = new PulseParts();
        for (int v : vs) {
            x.cell(v);
        }
        return x;
    }

    static int signOf(PulseParts x, int code, int k) {
        try {
            return x.sign(code, k);
        } catch (NoSuchElementException e) {
            return THROWN;
        }
    }

    static String times(String part, int many) {
        return part.repeat(many);
    }

    /** The FAULT of a text, and that it is kept without one, but stays on the TAPE with one. */
    void fault(int sort, String text, int want) {
        PulseParts x = tape(new PulseParts(), text);
        String of = "(" + sort + ") of '" + text + "'";
        due("fault" + of, x.fault(sort), want);
        due("count(3) behind fault" + of, x.count(3), text.length());
        due("text" + of, x.text(sort), want == NONE ? 0 : NONE);
        due("count(3) behind text" + of, x.count(3), want == NONE ? 0 : text.length());
        due("count(" + sort + ") behind text" + of, x.count(sort), want == NONE ? 1 : 0);
    }

    /** A call that answers as told and changes nothing. */
    void unchanged(String call, Supplier<PulseParts> made, ToLongFunction<PulseParts> act, long want) {
        due(call, act.applyAsLong(made.get()), want);
        String ahead = Look.at(made);
        String behind = Look.at(() -> {
            PulseParts x = made.get();
            act.applyAsLong(x);
            return x;
        });
        answers++;
        if (!ahead.equals(behind)) {
            int i = 0;
            while (i < ahead.length() && i < behind.length() && ahead.charAt(i) == behind.charAt(i)) {
                i++;
            }
            int from = Math.max(0, i - 60);
            tell(call + " changed something: .." + ahead.substring(from, Math.min(ahead.length(), i + 40))
                    + ".. became .." + behind.substring(from, Math.min(behind.length(), i + 40)) + "..");
        }
    }
}
