import java.util.function.Supplier;

/**
 * All that can be seen of a state, told as one text. Looking uses an object up, so each part is looked at on an
 * object that is made anew; none gets more than 512 calls.
 */
final class Look {
    private static final int NONE = PulseParts.NONE;

    private final Supplier<PulseParts> made;
    private final StringBuilder told = new StringBuilder();

    private Look(Supplier<PulseParts> made) {
        this.made = made;
    }

    static String at(Supplier<PulseParts> made) {
        Look look = new Look(made);
        look.texts();
        for (int sort = 0; sort <= 2; sort++) {
            look.tape(sort);
        }
        look.settings();
        for (int place = 0; place <= 7; place++) {
            look.reading(place);
        }
        look.acts();
        look.image();
        return look.told.toString();
    }

    private void tell(String what, long v) {
        told.append(what).append(v).append(' ');
    }

    private void texts() {
        PulseParts x = made.get();
        for (int what = 0; what <= 7; what++) {
            tell("count", x.count(what));
        }
        for (int code = 0; code < x.count(0); code++) {
            int length = Bench.signOf(x, code, NONE);
            tell("code", length);
            for (int k = 0; k < length; k++) {
                tell("", Bench.signOf(x, code, k));
            }
            tell("hinder", x.hinder(code, 0));
        }
        tell("friends", x.friends(4));
        for (int law = 0; law < x.count(1); law++) {
            tell("law", x.weight(0, law, 0));
            tell("", x.weight(0, law, 1));
        }
        for (int set = 0; set < x.count(2); set++) {
            tell("set", x.rest(set, NONE));
            for (int i = 0; i < x.rest(set, NONE); i++) {
                tell("", x.rest(set, i));
            }
        }
        tell("plan", x.plan(0));
        tell("plan", x.plan(1));
    }

    /** The TAPE, by the FAULT of each shorter one. */
    private void tape(int sort) {
        PulseParts x = made.get();
        for (int n = x.count(3); n >= 0; n--) {
            x.end(n);
            tell("tape", x.fault(sort));
        }
    }

    private void settings() {
        PulseParts x = made.get();
        int eight = eightOf99(x);
        for (int k = 1; k <= 3; k++) {
            tell("need", x.stagger(k, 28, 30, 300, 1));
        }
        for (int far = 0; far < 12; far++) {
            tell("seen", x.seen(eight, far));
        }
        x.draw(40, 1000, 99L);
        for (int cell = 0; cell < 40; cell++) {
            tell("found", x.found(cell));
        }
        // A row of what rises tells of FACTOR by how many are FOUND.
        x.draw(40, 1, 0L);
        for (int cell = 0; cell < 40; cell++) {
            x.change(cell, 1 + cell * cell / 2);
        }
        tell("alarms", x.alarms());
        tell("heaps", x.heaps(2));
    }

    /** A SET with 99 at each place, at which each READING can be looked at; the last SET if there are six. */
    private static int eightOf99(PulseParts x) {
        x.end(0);
        Bench.feed(x, "99,99,99,99,99,99,99,99");
        int set = x.text(2);
        return set == NONE ? x.count(2) - 1 : set;
    }

    private void reading(int place) {
        PulseParts x = made.get();
        int eight = eightOf99(x);
        for (int other = 0; other <= 7; other++) {
            if (other != place) {
                x.read(other, NONE);
            }
        }
        tell("reading", x.unfold(eight, 98, 0, 0, NONE));
        tell("", x.unfold(eight, 98, 0, 0, 0));
    }

    private void cellsOf(PulseParts x) {
        tell("cells", x.count(4));
        for (int cell = 0; cell < x.count(4); cell++) {
            tell("", x.at(cell));
        }
    }

    private void acts() {
        PulseParts x = made.get();
        cellsOf(x);
        for (int size = x.undo(true); size != NONE; size = x.undo(true)) {
            tell("again", size);
            tell("", x.at(0));
            tell("", x.at(size - 1));
        }
        for (int size = x.undo(false); size != NONE; size = x.undo(false)) {
            tell("undo", size);
            tell("", x.at(0));
            tell("", x.at(size - 1));
        }
    }

    private void image() {
        PulseParts x = made.get();
        tell("back", x.back());
        cellsOf(x);
    }
}
