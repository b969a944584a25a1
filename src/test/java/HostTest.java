/** Promises 29 to 39: judging, the image, acts, tapes. */
public final class HostTest {
    private static final long NO = Long.MIN_VALUE;

    public static void main(String[] args) {
        promise29Judge();
        promise30And31Image();
        promise31Undo();
        promise32And33Acts();
        promise32Wrong();
        promise34Taken();
        promise35Count();
        promise36Tape();
        promise37And38Items();
        promise39Shift();
        promise39Wrong();
        Due.end();
    }

    private static void promise29Judge() {
        MastLeft x = new MastLeft();
        Due.due("no pieces, no row", x.judge(0, 0), -5);
        Due.due("no pieces, no place", x.judge(0, -1), -5);
        x.tape(1, 2, 3);
        Due.due("no pieces, no row of bytes", x.judge(1, 0), -12);
        x.piece(0, 0, 10);
        x.piece(0, 0, 20);
        x.piece(0, 0, 30);
        Due.due("judge(-1, 0)", x.judge(-1, 0), -1);
        Due.due("judge(6, 0)", x.judge(6, 0), -1);
        for (int sort = 1; sort <= 4; sort++) {
            x.tape(1, sort, 3);
            Due.due("sort " + sort, x.judge(1, -1), -12);
        }
        Due.due("it holds nothing", x.judge(0, 0), 100);
        x.tape(0, 0, 5);
        for (int i = 0; i < 5; i++) {
            x.item(0, i, 10 * i);
        }
        Due.due("from 0 on", x.judge(0, 0), 0);
        Due.due("from 1 on", x.judge(0, 1), -5);
        Due.due("from 5 on", x.judge(0, 5), 100);
        Due.due("from -1 on", x.judge(0, -1), 100);
        Due.due("the last TAPE", x.judge(5, 0), 100);
        Due.due("from the greatest on", x.judge(0, Integer.MAX_VALUE), 100);
        Due.due("from the least on", x.judge(0, Integer.MIN_VALUE), 100);
        x.item(0, 3, 31);
        Due.due("the third is otherwise", x.judge(0, 1), 2);
        x.item(0, 4, 10);
        Due.due("it ends behind one", x.judge(0, 4), 101);
        x.item(0, 3, 10);
        x.item(0, 4, 20);
        Due.due("it ends behind two", x.judge(0, 3), 102);
        x.item(0, 4, 21);
        Due.due("the second is otherwise", x.judge(0, 3), 1);
    }

    private static MastLeft full() {
        MastLeft x = Due.mast(50, 10);
        x.piece(6, 4, 30);
        x.row(2, 1, 7);
        x.set(2, 1, 8);
        x.trim(0, 1);
        x.trim(1, 1);
        Due.ocean(x, "wind 6");
        x.see(2, 2);
        x.plan(0, 0);
        x.book(1, 10);
        x.pass(2);
        return x;
    }

    private static void promise30And31Image() {
        MastLeft x = full();
        Due.due("undo ahead of an image", x.undo(), -3);
        Due.due("image()", x.image(), 3);
        Due.ocean(x, "wind 9");
        x.row(2, 1, 1);
        x.set(2, 1, 1);
        x.set(1, 0, 1);
        x.lower(0);
        x.hoist(2);
        x.trim(0, 5);
        x.trim(1, 5);
        x.see(2, 2);
        x.plan(4, 0);
        x.book(0, 1);
        x.piece(1, 1, 1);
        x.pass(9);
        asItWas(x, "undo()");
        x.see(-1, 0);
        x.plan(-1, 0);
        x.book(-1, 0);
        x.see(3, 0);
        x.plan(4, 3);
        x.book(2, 3);
        x.pass(20);
        asItWas(x, "undo() again");
    }

    private static void asItWas(MastLeft x, String name) {
        Due.due(name, x.undo(), 3);
        Due.due(name + ": PIECES", x.count(0), 3);
        Due.due(name + ": none more", x.of(3, 0), -1001);
        Due.due(name + ": OCEANS are not undone", x.count(1), 2);
        long[] told = {2, 6, 2, 1, 1, 10, 58, 5};
        for (int what = 0; what < told.length; what++) {
            Due.due(name + ": told(" + what + ")", x.told(what), told[what]);
        }
        Due.due(name + ": foot", x.told(10), 0);
        Due.due(name + ": top", x.told(11), 1);
        Due.due(name + ": ROW", x.row(2, 1, 7), 7);
        long[] of = {6, 4, 30, 8, 0};
        for (int what = 0; what < of.length; what++) {
            Due.due(name + ": of(2, " + what + ")", x.of(2, what), of[what]);
        }
        Due.due(name + ": LENGTH", x.of(1, 2), 10);
        Due.due(name + ": SEEN", x.count(3), 1);
        Due.due(name + ": PLAN", x.count(4), 1);
        Due.due(name + ": BOOK", x.count(5), 1);
        Due.due(name + ": PLAN's row", x.ends(0), 5);
        Due.due(name + ": BOOK's row", x.looked(), -5);
        Due.due(name + ": SEEN's row", x.worn(2, 0), 61);
    }

    private static void promise31Undo() {
        MastLeft x = new MastLeft();
        Due.due("an image of nothing", x.image(), 0);
        x.piece(0, 0, 10);
        Due.ocean(x, "wind 9");
        Due.feed(x, "wind");
        x.tape(0, 0, 3);
        x.act(0, 2, 1);
        Due.due("undo()", x.undo(), 0);
        Due.due("no OCEAN holds", x.told(1), 5);
        Due.due("but there is one", x.count(1), 1);
        Due.due("THE TEXT stays", x.count(6), 4);
        Due.due("THE TRACE stays", x.count(7), 3);
        Due.due("TAPES stay", x.read(0, 2), 0);
        Due.due("the next OCEAN is 1", Due.ocean(x, " 8"), 1);
        Due.due("and holds", x.told(1), 8);
        x.image();
        x.piece(0, 0, 10);
        x.image();
        Due.due("the latest image", x.undo(), 1);
        x = Due.mast(50);
        x.image();
        x.pass(60);
        x.undo();
        Due.due("what broke is whole again", x.of(0, 4) + x.of(0, 2), 50);
    }

    private static void act(MastLeft x, int piece, int act, int arg, int due, int... bodies) {
        String name = "act(" + piece + ", " + act + ", " + arg + ")";
        Due.due(name, x.act(piece, act, arg), due);
        Due.due(name + ": count(7)", x.count(7), bodies.length);
        for (int i = 0; i < bodies.length; i++) {
            Due.due(name + ": trace(" + i + ")", x.trace(i), bodies[i]);
        }
        Due.due(name + ": behind the last", x.trace(bodies.length), -1);
    }

    private static void promise32And33Acts() {
        MastLeft x = new MastLeft();
        int[] vs = {3, 5, 2, 1, 4, 7};
        for (int kind = 0; kind < 6; kind++) {
            x.piece(kind, vs[kind], 10);
        }
        act(x, 0, 0, 10, 10, 10);
        act(x, 0, 1, 10, 7, 11, 10);
        act(x, 0, 2, 10, 14, 12, 11, 10);
        act(x, 1, 0, 11, 12, 10);
        act(x, 1, 1, 11, 1, 20, 11, 10);
        act(x, 1, 2, 11, 2, 12, 20, 11, 10);
        act(x, 2, 0, 10, 32, 30, 10);
        act(x, 2, 1, 10, 30, 11, 30, 10);
        act(x, 2, 2, 10, 60, 12, 11, 30, 10);
        act(x, 3, 0, 10, 13, 10);
        act(x, 3, 1, 10, 12, 11, 10);
        act(x, 3, 2, 10, 27, 40, 12, 11, 10, 11, 10);
        act(x, 4, 0, 10, -14, 50, 10);
        act(x, 4, 1, 10, -21, 51, 20, 11, 50, 10);
        act(x, 4, 2, 10, -42, 12, 51, 20, 11, 50, 10);
        act(x, 5, 0, 10, 35, 30, 10);
        act(x, 5, 1, 10, 28, 11, 30, 10);
        act(x, 5, 2, 10, 26, 60, 12, 11, 30, 10);
        act(x, 2, 0, Integer.MAX_VALUE, Integer.MAX_VALUE, 30, 10);
        act(x, 1, 0, Integer.MAX_VALUE, Integer.MIN_VALUE, 10);
        x = new MastLeft();
        x.piece(0, 0, 10);
        x.piece(6, 6, 10);
        act(x, 1, 0, 10, 13, 71, 10);
        act(x, 1, 1, 10, 10, 70, 11, 71, 10, 10);
        act(x, 1, 2, 10, 21, 40, 12, 70, 11, 71, 10, 10, 70, 11, 71, 10, 10);
    }

    private static void promise32Wrong() {
        MastLeft x = Due.mast(10);
        act(x, 0, 2, 1, 2, 12, 11, 10);
        Due.due("trace(-1)", x.trace(-1), -1);
        Due.due("trace(20)", x.trace(20), -1);
        act(x, 1, 0, 5, 0);
        act(x, 0, 1, 5, 5, 11, 10);
        act(x, 0, 3, 5, 0);
        act(x, 0, 1, 5, 5, 11, 10);
        act(x, -1, 0, 5, 0);
        act(x, 0, 1, 5, 5, 11, 10);
        act(x, 0, -1, 5, 0);
        for (int kind = 1; kind < 6; kind++) {
            x.piece(kind, 0, 10);
            act(x, kind, 3, 5, 0);
            act(x, kind, -1, 5, 0);
        }
    }

    private static void promise34Taken() {
        int[] above = {-1, 0, 0, 0, 1, 2, 3};
        for (int kind = 0; kind < 7; kind++) {
            MastLeft x = new MastLeft();
            x.piece(kind, 0, 10);
            for (int k = 0; k < 7; k++) {
                boolean under = k == 0 || k == kind || k == above[kind];
                Due.due("kind " + kind + " for " + k, x.taken(0, k), under ? kind : -12);
            }
            Due.due("k -1", x.taken(1, -1), -2);
            Due.due("k 7", x.taken(0, 7), -2);
            Due.due("no such piece", x.taken(1, 6), -11);
            Due.due("piece -1", x.taken(-1, 0), -11);
        }
    }

    private static void promise35Count() {
        MastLeft x = full();
        Due.feed(x, "wind");
        x.hoist(2);
        x.see(0, 0);
        x.plan(0, 0);
        x.plan(0, 0);
        x.act(0, 2, 0);
        x.book(0, 0);
        x.book(0, 0);
        x.book(0, 0);
        long[] due = {3, 1, 3, 2, 3, 4, 4, 3};
        for (int what = 0; what < due.length; what++) {
            Due.due("count(" + what + ")", x.count(what), due[what]);
        }
        Due.due("count(-1)", x.count(-1), -2);
        Due.due("count(8)", x.count(8), -2);
    }

    private static void promise36Tape() {
        MastLeft x = new MastLeft();
        Due.due("tape -1", x.tape(-1, 9, 99), -1);
        Due.due("tape 6", x.tape(6, 0, 1), -1);
        Due.due("sort -2", x.tape(0, -2, 1), -2);
        Due.due("sort 5", x.tape(0, 5, -1), -2);
        Due.due("n 61", x.tape(0, 0, 61), -2);
        Due.due("n -1", x.tape(0, 0, -1), -14);
        Due.due("the least n", x.tape(0, 4, Integer.MIN_VALUE), -14);
        Due.due("nothing came of it", x.item(0, 0, 0), -11);
        Due.due("n 60", x.tape(0, 3, 60), 1);
        Due.due("its last item", x.item(0, 59, 7), 1);
        Due.due("a wrong size leaves it", x.tape(0, 0, -1), -14);
        Due.due("its last item stays", x.read(0, 59), 7);
        Due.due("made anew", x.tape(0, 3, 60), 1);
        Due.due("all 0", x.read(0, 59), 0);
        x.item(0, 0, 5);
        x.tape(0, 3, 60);
        Due.due("the first too", x.read(0, 0), 0);
        Due.due("the last TAPE", x.tape(5, 3, 60), 1);
        Due.due("its item", x.item(5, 0, 5), 1);
        Due.due("read", x.read(5, 0), 5);
        Due.due("n 0", x.tape(5, 1, 0), 1);
        Due.due("no items", x.item(5, 0, 1), -13);
        Due.due("nothing, whatever n", x.tape(0, -1, -99), 1);
        Due.due("it holds nothing", x.item(0, 0, 1), -11);
        Due.due("read of nothing", x.read(0, 0), NO);
    }

    private static void promise37And38Items() {
        MastLeft x = new MastLeft();
        long v = 0x123456789abcdef1L;
        long[] due = {(byte) v, (short) v, (int) v, v, 1};
        for (int sort = 0; sort <= 4; sort++) {
            x.tape(sort, sort, 2);
            Due.due("item of sort " + sort, x.item(sort, 1, v), 1);
            Due.due("read of sort " + sort, x.read(sort, 1), due[sort]);
            Due.due("the other item", x.read(sort, 0), 0);
            x.item(sort, 1, 0);
            Due.due("0 again", x.read(sort, 1), 0);
            x.item(sort, 1, 1L << 32);
            Due.due("its lowest bits", x.read(sort, 1), sort == 3 ? 1L << 32 : sort == 4 ? 1 : 0);
        }
        x.item(0, 0, 128);
        Due.due("a byte's sign", x.read(0, 0), -128);
        int[] none = {-1, 2, 60, Integer.MAX_VALUE, Integer.MIN_VALUE};
        for (int i : none) {
            Due.due("item(0, " + i + ")", x.item(0, i, 1), -13);
            Due.due("read(0, " + i + ")", x.read(0, i), NO);
            Due.due("item(5, " + i + ")", x.item(5, i, 1), -11);
        }
        Due.due("item(6, 0)", x.item(6, 0, 1), -1);
        Due.due("item(-1, 0)", x.item(-1, 0, 1), -1);
        Due.due("read(6, 0)", x.read(6, 0), NO);
        Due.due("read(-1, 0)", x.read(-1, 0), NO);
    }

    private static void row(MastLeft x, int tape, long... due) {
        for (int i = 0; i < due.length; i++) {
            Due.due("tape " + tape + ", item " + i, x.read(tape, i), due[i]);
        }
    }

    private static void promise39Shift() {
        MastLeft x = new MastLeft();
        x.tape(0, 2, 5);
        x.tape(1, 2, 3);
        for (int i = 0; i < 5; i++) {
            x.item(0, i, i + 1);
        }
        Due.due("to another", x.shift(0, 1, 1, 0, 3), 3);
        row(x, 1, 2, 3, 4);
        Due.due("up, to the same", x.shift(0, 0, 0, 1, 4), 4);
        row(x, 0, 1, 1, 2, 3, 4);
        Due.due("down, to the same", x.shift(0, 2, 0, 0, 3), 3);
        row(x, 0, 2, 3, 4, 3, 4);
        Due.due("none", x.shift(0, 5, 1, 3, 0), 0);
        row(x, 0, 2, 3, 4, 3, 4);
        row(x, 1, 2, 3, 4);
    }

    private static void promise39Wrong() {
        MastLeft x = new MastLeft();
        x.tape(0, 2, 5);
        x.tape(1, 2, 3);
        x.tape(2, 3, 3);
        Due.due("tape -1", x.shift(-1, 0, 5, 0, -1), -1);
        Due.due("tape 6", x.shift(6, 0, 0, 0, 1), -1);
        Due.due("other 6", x.shift(0, 0, 6, 0, 1), -1);
        Due.due("other -1", x.shift(5, 0, -1, 0, 1), -1);
        Due.due("nothing to come from", x.shift(5, 0, 0, 0, -1), -11);
        Due.due("nothing to come to", x.shift(0, 0, 5, 0, -1), -11);
        Due.due("unlike sorts", x.shift(0, -1, 2, 0, 0), -12);
        int[][] wrong = {{-1, 0, 1}, {0, -1, 1}, {0, 0, -1}, {3, 0, 3}, {0, 1, 3}, {6, 0, 0}, {0, 4, 0}, {5, 0, 1}, {0, 0, 4},
            {Integer.MAX_VALUE, 0, 1}, {1, 1, Integer.MAX_VALUE}, {Integer.MIN_VALUE, 0, 0}, {0, Integer.MAX_VALUE, Integer.MAX_VALUE}};
        for (int[] w : wrong) {
            Due.due("shift(0, " + w[0] + ", 1, " + w[1] + ", " + w[2] + ")", x.shift(0, w[0], 1, w[1], w[2]), -13);
        }
    }
}
