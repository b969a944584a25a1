import java.util.function.Supplier;
import java.util.function.ToLongFunction;

/** Every call that only asks, with numbers that it takes: it changes nothing, and answers the same again. */
final class Asks {
    private final String name;
    private final Supplier<MastLeft> made;

    private Asks(String name, Supplier<MastLeft> made) {
        this.name = name;
        this.made = made;
    }

    static void all(String name, Supplier<MastLeft> made) {
        Asks a = new Asks(name, made);
        a.facts();
        a.days();
        a.host();
    }

    private void ask(String call, ToLongFunction<MastLeft> what) {
        long first = what.applyAsLong(made.get());
        Probe.keeps(name + ": " + call, made, what, first);
        MastLeft x = made.get();
        what.applyAsLong(x);
        Due.due(name + ": " + call + " again", what.applyAsLong(x), first);
    }

    private void facts() {
        for (int what = 0; what <= 9; what++) {
            int w = what;
            ask("of(0, " + w + ")", x -> x.of(0, w));
            ask("of(1, " + w + ")", x -> x.of(1, w));
        }
        for (int what = 0; what <= 12; what++) {
            int w = what;
            ask("told(" + w + ")", x -> x.told(w));
            ask("count(" + w + ")", x -> x.count(w));
            ask("trace(" + w + ")", x -> x.trace(w));
        }
        for (int k = 0; k <= 6; k++) {
            int kind = k;
            ask("taken(1, " + k + ")", x -> x.taken(1, kind));
        }
    }

    private void days() {
        int[] what = {0, 1, 2, 10, 11, 20, 21};
        for (int w : what) {
            ask("on(60, " + w + ")", x -> x.on(60, w));
        }
        ask("port(0)", x -> x.port(0));
        ask("port(9999)", x -> x.port(9999));
        ask("spread()", x -> x.spread());
        ask("fewest(1)", x -> x.fewest(1));
        ask("fewest(30)", x -> x.fewest(30));
        ask("looked()", x -> x.looked());
        for (int k = 0; k <= 3; k++) {
            int w = k;
            ask("best(0, " + k + ")", x -> x.best(0, w));
            ask("best(1, " + k + ")", x -> x.best(1, w));
            ask("longest(" + k + ")", x -> x.longest(w));
        }
        for (int k = 0; k <= 1; k++) {
            int w = k;
            ask("first(" + k + ")", x -> x.first(w));
            ask("worn(0, " + k + ")", x -> x.worn(0, w));
            ask("can(1, " + k + ")", x -> x.can(1, w));
            ask("odds(60, " + k + ")", x -> x.odds(60, w));
            ask("mean(" + k + ")", x -> x.mean(w));
            ask("ends(" + k + ")", x -> x.ends(w));
        }
    }

    private void host() {
        for (int t = 0; t < 6; t++) {
            int tape = t;
            ask("judge(" + t + ", 0)", x -> x.judge(tape, 0));
            ask("read(" + t + ", 0)", x -> x.read(tape, 0));
        }
    }
}
