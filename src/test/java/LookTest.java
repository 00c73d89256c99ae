import java.util.List;
import java.util.function.Supplier;
import java.util.function.ToLongFunction;

/** That Look, by which the tests of refused calls see what has changed, sees each change that there can be. */
public final class LookTest {
    private static final Bench bench = new Bench();

    public static void main(String[] args) {
        bench.sentence("Look sees each change");
        changes("new", PulseParts::new);
        changes("some", LookTest::some);
        bench.sentence("Look sees none where none is");
        for (ToLongFunction<PulseParts> ask : QUESTIONS) {
            bench.due("the same again", same(PulseParts::new, ask), true);
            bench.due("the same again", same(LookTest::some, ask), true);
        }
        bench.finish();
    }

    private static final List<ToLongFunction<PulseParts>> ACTS = List.of(
            x -> x.feed('+' << 24, 0, 0, 0, 0), x -> x.set(0, 3) ? 1 : 0, x -> x.set(1, 3) ? 1 : 0, x -> x.set(2, 3) ? 1 : 0,
            x -> x.set(3, 4) ? 1 : 0, x -> x.set(4, 4) ? 1 : 0, x -> x.set(5, 31) ? 1 : 0, x -> x.read(0, 11) ? 1 : 0,
            x -> x.read(7, 12) ? 1 : 0, x -> x.cell(77), x -> x.draw(40, 1000, 5L) ? 1 : 0, x -> x.beam(3, 4, 5), PulseParts::image,
            x -> Bench.and(x, Bench.CODE, "+9-").count(0), x -> Bench.and(x, Bench.LAW, "y:k+3").count(1),
            x -> Bench.and(x, Bench.RESTS, "7,9").count(2));

    private static final List<ToLongFunction<PulseParts>> ACTS_ON_SOME = List.of(
            x -> x.end(2) ? 1 : 0, x -> x.end(0) ? 1 : 0, x -> x.text(0), x -> x.change(0, 3) ? 1 : 0, x -> x.change(0, 1) ? 1 : 0,
            x -> x.undo(false), x -> x.undo(true), x -> x.read(1, -1) ? 1 : 0, x -> x.back());

    private static final List<ToLongFunction<PulseParts>> QUESTIONS = List.of(
            x -> x.fault(0), x -> x.fault(1), x -> x.fault(2), x -> Bench.signOf(x, 0, 0), x -> x.rest(0, 0), x -> x.weight(0, 0, 1),
            x -> x.comes(0, 0, 0, 1, 1, 2), x -> x.lobes(0, 0, 1), x -> x.hinder(0, 0), x -> x.friends(3), x -> x.best(5, 0),
            x -> x.filter(0, 0), x -> x.seen(0, 5), x -> x.map(0, 40, 0), x -> x.choice(0, 1, 10, 0), x -> x.unfold(0, 40, 1, 1, 0),
            x -> x.ghosts(0, 1, 2, 40), x -> x.at(0), x -> x.found(0), PulseParts::alarms, x -> x.share(2, 3, 1, 10, 0), x -> x.plan(0),
            x -> x.like(0, 0), x -> x.partners(0, 0), x -> x.cancel(2, 1), x -> x.stagger(2, 2, 9, 30, 0), x -> x.factor(2, 3, 1, 400000),
            x -> x.heaps(0), x -> x.count(0));

    private static PulseParts some() {
        PulseParts x = Bench.and(Bench.and(Bench.with(Bench.CODE, "+i", "-3"), Bench.LAW, "y:k+2"), Bench.RESTS, "5,7");
        x.cell(1);
        x.cell(2);
        x.image();
        x.cell(3);
        x.change(0, 9);
        x.undo(false);
        x.beam(2, 3, 4);
        x.read(1, 6);
        return Bench.tape(x, "+-i");
    }

    private static boolean same(Supplier<PulseParts> made, ToLongFunction<PulseParts> act) {
        return Look.at(made).equals(Look.at(() -> {
            PulseParts x = made.get();
            act.applyAsLong(x);
            return x;
        }));
    }

    private static void changes(String of, Supplier<PulseParts> made) {
        Supplier<PulseParts> bare = () -> {
            PulseParts x = made.get();
            x.end(0);
            return x;
        };
        for (int i = 0; i < ACTS.size(); i++) {
            bench.due("the ACT " + i + " on " + of + " changes nothing", same(bare, ACTS.get(i)), false);
        }
        for (int i = 0; i < ACTS_ON_SOME.size() && of.equals("some"); i++) {
            bench.due("the ACT " + i + " on some alone changes nothing", same(made, ACTS_ON_SOME.get(i)), false);
        }
    }
}
