import java.util.function.IntFunction;
import java.util.function.Supplier;
import java.util.function.ToLongFunction;

/**
 * Whether a call changes anything: two objects are made alike, one of them is asked, and then both are asked for all
 * that may be known of them. What is made takes 200 calls or so, and what is asked then some 300: 512 are not reached.
 */
final class Probe {
    /** The greatest and least numbers there are, which no call takes as one of its own. */
    private static final int[] FAR = {Integer.MIN_VALUE, Integer.MAX_VALUE};

    private final MastLeft left, asked;
    private final String name;

    private Probe(String name, MastLeft left, MastLeft asked) {
        this.name = name;
        this.left = left;
        this.asked = asked;
    }

    // ---- objects

    static MastLeft bare() {
        return new MastLeft();
    }

    /** Four PIECES, two of them in THE MAST, on DAY 2, with something of everything, and an IMAGE that is otherwise. */
    static MastLeft some() {
        MastLeft x = new MastLeft();
        x.piece(2, 3, 50);
        x.piece(6, 4, 21);
        x.piece(1, 5, 30);
        x.row(1, 2, 7);
        x.row(1, 0, 3);
        x.hoist(0);
        x.trim(0, 2);
        x.see(1, 1);
        x.plan(0, 0);
        x.book(0, 50);
        Due.ocean(x, "wind 6");
        x.image();
        x.piece(5, 6, 44);
        x.hoist(1);
        x.set(1, 1, 5);
        x.trim(0, 1);
        x.trim(1, 1);
        Due.ocean(x, "firm 9 k=6;lash 3");
        x.pass(2);
        x.see(2, 2);
        x.plan(3, 2);
        x.plan(1, 2);
        x.plan(0, 0);
        x.book(1, 21);
        x.book(3, 43);
        x.act(1, 2, 10);
        for (int sort = 0; sort <= 4; sort++) {
            x.tape(sort, sort, 4);
            x.item(sort, 0, 50);
            x.item(sort, 2, 1);
        }
        x.item(0, 1, 21);
        Due.feed(x, "wind 7");
        return x;
    }

    /** Of all that is counted as many as there may be; the three of THE MAST are the PIECES 2, 0, 3. */
    static MastLeft full() {
        MastLeft x = new MastLeft();
        for (int kind = 0; kind < 6; kind++) {
            x.piece(kind == 3 ? 6 : kind, kind, 20);
        }
        x.hoist(2);
        x.hoist(0);
        x.hoist(3);
        x.image();
        for (int i = 0; i < 6; i++) {
            Due.ocean(x, "wind " + i);
        }
        for (int i = 1; i <= 5; i++) {
            x.see(3, i);
        }
        for (int i = 0; i < 10; i++) {
            x.plan(0, 0);
        }
        for (int i = 0; i < 8; i++) {
            x.book(i % 6, 20);
        }
        for (int i = 0; i < 100; i++) {
            x.feed('w');
        }
        x.act(3, 0, 1);
        return x;
    }

    /** DAY 9999, and WENT 99999: three of 99 feet that bear it all, 117 miles a DAY. */
    static MastLeft late() {
        MastLeft x = Due.mast(99, 99, 99);
        Due.ocean(x, "firm 99 p<9;firm 99 p<9;firm 99 p<9;wind 0");
        x.trim(0, 4);
        x.trim(1, 9);
        for (int i = 0; i < 166; i++) {
            x.pass(60);
        }
        x.pass(39);
        return x;
    }

    // ---- what is looked at

    private void ask(String call, ToLongFunction<MastLeft> what) {
        long want = what.applyAsLong(left), got = what.applyAsLong(asked);
        if (got != want) {
            Due.due(name + ", and then " + call, got, want);
        }
    }

    private void each(String call, int least, int most, IntFunction<ToLongFunction<MastLeft>> what) {
        for (int i = least; i <= most; i++) {
            ask(call + " " + i, what.apply(i));
        }
    }

    private void world() {
        each("count", 0, 7, i -> x -> x.count(i));
        each("told", 0, 13, i -> x -> x.told(i));
        for (int p = 0; p < 6; p++) {
            int piece = p;
            each("of " + p, 0, 9, i -> x -> x.of(piece, i));
        }
        each("ends", 0, 1, i -> x -> x.ends(i));
        ask("looked", x -> x.looked());
        each("worn", 0, 3, i -> x -> x.worn(i, 0));
        each("can", 0, 3, i -> x -> x.can(i, 1));
    }

    /** Sorts are told by what is left of a great number, sizes by what is beyond the end. */
    private void tapes() {
        for (int t = 0; t < 6; t++) {
            int tape = t;
            each("read " + t, 0, 4, i -> x -> x.read(tape, i));
            ask("item " + t, x -> x.item(tape, 3, 0x180008000800081L));
            ask("read " + t + " 3 then", x -> x.read(tape, 3));
        }
    }

    private void all() {
        world();
        each("trace", 0, 12, i -> x -> x.trace(i));
        tapes();
        ask("THE TEXT as ocean", x -> x.ocean());
        ask("told 1 then", x -> x.told(1));
        for (int p = 0; p < 6; p++) {
            int piece = p;
            each("row " + p, 0, 3, i -> x -> x.row(piece, i, 0));
        }
        ask("undo", x -> x.undo());
        world();
    }

    // ---- tests

    /** The call is answered so. */
    static void answers(String name, Supplier<MastLeft> made, ToLongFunction<MastLeft> call, long due) {
        Due.due(name, call.applyAsLong(made.get()), due);
    }

    /** The call is answered so, and all is as if it had not been made. */
    static void keeps(String name, Supplier<MastLeft> made, ToLongFunction<MastLeft> call, long due) {
        MastLeft left = made.get(), asked = made.get();
        Due.due(name, call.applyAsLong(asked), due);
        new Probe(name, left, asked).all();
    }

    /** All that may be known of the two is the same. */
    static void alike(String name, MastLeft left, MastLeft asked) {
        new Probe(name, left, asked).all();
    }

    /** What is beyond least and most is answered so and changes nothing; what is not is answered otherwise. */
    static void bounds(String name, Supplier<MastLeft> made, IntFunction<ToLongFunction<MastLeft>> call, int least, int most, long due) {
        beyond(name, made, call, least, most, due);
        for (int n = least; n <= most; n++) {
            long got = call.apply(n).applyAsLong(made.get());
            Due.due(name + ", " + n + " is taken (" + got + ")", got == due ? 1 : 0, 0);
        }
    }

    /** What is beyond least and most is answered so and changes nothing. */
    static void beyond(String name, Supplier<MastLeft> made, IntFunction<ToLongFunction<MastLeft>> call, int least, int most, long due) {
        keeps(name + ", " + (least - 1), made, call.apply(least - 1), due);
        keeps(name + ", " + (most + 1), made, call.apply(most + 1), due);
        for (int far : FAR) {
            keeps(name + ", " + far, made, call.apply(far), due);
        }
    }
}
