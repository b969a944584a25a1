/** The promises 29 to 39, sentence by sentence: judging, the image, acts, tapes. */
final class PromisesOfTapes {
    private static final int MOST = Integer.MAX_VALUE, LEAST = Integer.MIN_VALUE;

    private PromisesOfTapes() {
    }

    static void all() {
        judge();
        image();
        undo();
        act();
        trace();
        taken();
        count();
        tape();
        item();
        itemsBits();
        read();
        shift();
        shiftRefused();
    }

    private static void judge() {
        Doc.promise(29);
        Doc.says("JUDGED from place i of a TAPE on.", () -> {
            MastLeft x = Probe.some();
            Due.each("TAPE 0, from place", -1, i -> x.judge(0, i), 100, 2, 0, 0, 0, 100);
            x.item(0, 2, 30);
            x.item(0, 3, 44);
            Due.due("all of them", x.judge(0, 0), -5);
            x.tape(5, 0, 60);
            x.item(5, 58, 50);
            x.item(5, 59, 21);
            Due.due("TAPE 5, from place 58 on", x.judge(5, 58), 102);
        });
        Doc.says("NONE: tape;", () -> Probe.bounds("tape", Probe::some, t -> x -> x.judge(t, 0), 0, 5, -1));
        Doc.says("CAST: it is no row of bytes.", () -> {
            for (int sort = 0; sort <= 4; sort++) {
                int t = sort;
                Probe.keeps("sort " + t, Probe::some, x -> x.judge(t, 0), t == 0 ? 2 : -12);
                Probe.keeps("sort " + t + ", no such place", Probe::some, x -> x.judge(t, -1), t == 0 ? 100 : -12);
            }
            MastLeft x = new MastLeft();
            x.tape(0, 2, 0);
            Due.due("no PIECES, no bytes", x.judge(0, 0), -12);
        });
    }

    private static void image() {
        Doc.promise(30);
        Doc.says("THE IMAGE is taken: how many PIECES there are.", () -> {
            MastLeft x = new MastLeft();
            for (int i = 0; i <= 6; i++) {
                Due.due("image()", x.image(), i);
                x.piece(0, 0, 10 + i);
            }
            x.set(0, 0, 99);
            Due.due("the latest one holds", x.undo(), 6);
            Due.due("LENGTH", x.of(0, 2), 10);
            Due.due("PIECE 5", x.of(5, 2), 15);
            MastLeft y = Probe.some();
            Due.due("another ahead of the first one's undo()", y.image(), 4);
            y.pass(1);
            Due.due("undo()", y.undo(), 4);
            Due.due("DAY", y.told(0), 2);
            MastLeft left = Probe.full(), asked = Probe.full();
            asked.undo();
            asked.image();
            left.undo();
            Probe.alike("image() changes nothing else", left, asked);
        });
    }

    private static void undo() {
        Doc.promise(31);
        Doc.says("All is as THE IMAGE: how many PIECES.", () -> {
            MastLeft x = Probe.some();
            Due.due("undo()", x.undo(), 3);
            Due.each("told", 0, what -> x.told(what), 0, 6, 2, 2, 0, 0, 50, 10, -1, -1, 0, -1);
            Due.each("count", 0, what -> x.count(what), 3, 2, 1, 1, 1, 1, 6, 12);
            Due.each("of PIECE 0", 0, what -> x.of(0, what), 2, 3, 50, 0, 0, 20, 30, 0, 50, 26);
            Due.each("of PIECE 1", 0, what -> x.of(1, what), 6, 4, 21, 0, 0, 20, 27, -5, -5, -5);
            Due.due("PIECE 3 is no more", x.of(3, 0), -1001);
            Due.due("the PLAN's DAY", x.ends(0), 10);
            Due.due("the BOOK's row", x.looked(), -5);
            Due.due("TAPES are no part of it", x.read(0, 0), 50);
            Due.due("nor is THE TRACE", x.trace(0), 40);
            Due.due("nor is THE TEXT", x.ocean(), 2);
            Due.due("undo() again", x.undo(), 3);
            Due.due("the first OCEAN holds", x.told(1), 6);
        });
        Doc.says("STATE: there is none.", () -> {
            Probe.keeps("undo()", Probe::bare, x -> x.undo(), -3);
            Probe.keeps("undo(), of some PIECES", () -> Due.mast(10, 20), x -> x.undo(), -3);
        });
    }

    private static void act() {
        Doc.promise(32);
        Doc.says("An ACT (0 bends, 1 holds, 2 tells) of a PIECE with x.", () -> {
            MastLeft x = Probe.some();
            Due.each("of the BOOM, with 10", 0, act -> x.act(0, act, 10), 30, 27, 54);
            Due.each("of the TOLD, with 10", 0, act -> x.act(1, act, 10), 11 ^ 4, (11 ^ 4) - 4 + 3, 2 * 14 + (2 ^ 4) - 4 + 3);
            Due.each("of the OAR, with 10", 0, act -> x.act(2, act, 10), 12, 7 ^ 6, 2);
            Due.each("of the CRACKED, with 10", 0, act -> x.act(3, act, 10), 33, 27, 36);
            MastLeft left = Probe.some(), asked = Probe.some();
            left.act(1, 2, 10);
            asked.act(0, 0, 3);
            asked.act(1, 2, 10);
            Probe.alike("it changes THE TRACE alone", left, asked);
        });
        Doc.says("0, and no TRACE then: no such PIECE, act.", () -> {
            for (int p : new int[] {4, -1, 6, MOST, LEAST}) {
                noTrace("PIECE " + p, p, 0);
            }
            for (int act : new int[] {3, -1, MOST, LEAST}) {
                for (int p = 0; p < 4; p++) {
                    noTrace("PIECE " + p + ", act " + act, p, act);
                }
            }
            Due.due("0, with a TRACE", Due.one(0, 0, 1, 0).act(0, 0, 0), 0);
        });
    }

    private static void noTrace(String name, int piece, int act) {
        MastLeft x = Probe.some();
        Due.due("THE TRACE ahead of it", x.count(7), 12);
        Due.due(name, x.act(piece, act, 5), 0);
        Due.due(name + ": no TRACE", x.trace(0), -1);
        Due.due(name + ": no bodies", x.count(7), 0);
    }

    private static void trace() {
        Doc.promise(33);
        Doc.says("THE TRACE's i-th body.", () -> {
            MastLeft x = Probe.some();
            Due.each("of the TOLD one's tells", 0, i -> x.trace(i), 40, 12, 70, 11, 71, 10, 10, 70, 11, 71, 10, 10);
        });
        Doc.says("NONE.", () -> {
            Probe.bounds("12 bodies", Probe::some, i -> x -> x.trace(i), 0, 11, -1);
            Probe.bounds("2 bodies", Probe::full, i -> x -> x.trace(i), 0, 1, -1);
            Probe.bounds("none", Probe::bare, i -> x -> x.trace(i), 0, -1, -1);
            for (int i = 12; i <= 21; i++) {
                Due.due("trace(" + i + ")", Probe.some().trace(i), -1);
            }
        });
    }

    private static void taken() {
        Doc.promise(34);
        Doc.says("A PIECE taken for one of KIND k (0 .. 6), or one under that: its KIND.", () -> {
            int[][] fits = {{0}, {0, 1}, {0, 2}, {0, 3}, {0, 1, 4}, {0, 2, 5}, {0, 3, 6}};
            for (int kind = 0; kind <= 6; kind++) {
                for (int k : fits[kind]) {
                    Due.due("KIND " + kind + " for " + k, Due.one(kind, 0, 1, 0).taken(0, k), kind);
                }
            }
        });
        Doc.says("BAD: k;", () -> {
            Probe.beyond("k", Probe::some, k -> x -> x.taken(1, k), 0, 6, -2);
            Probe.beyond("k, and no such PIECE", Probe::some, k -> x -> x.taken(4, k), 0, 6, -2);
        });
        Doc.says("NOTHING: no such PIECE;", () -> {
            Probe.bounds("PIECE", Probe::some, p -> x -> x.taken(p, 0), 0, 3, -11);
            Probe.bounds("PIECE, by 6", Probe::some, p -> x -> x.taken(p, 6), 0, 3, -11);
        });
        Doc.says("CAST.", () -> {
            boolean[][] fits = {{true}, {true, true}, {true, false, true}, {true, false, false, true}, {true, true, false, false, true},
                {true, false, true, false, false, true}, {true, false, false, true, false, false, true}};
            for (int kind = 0; kind <= 6; kind++) {
                for (int k = 0; k <= 6; k++) {
                    int one = kind, other = k;
                    if (k >= fits[kind].length || !fits[kind][k]) {
                        Probe.keeps("KIND " + kind + " for " + k, () -> Due.one(one, 0, 1, 0), x -> x.taken(0, other), -12);
                    }
                }
            }
        });
    }

    private static void count() {
        Doc.promise(35);
        Doc.says("How many: 0 PIECES, 1 OCEANS, 2 in THE MAST, 3 SEEN, 4 of the PLAN, 5 of the BOOK, 6 bytes of THE TEXT, "
            + "7 bodies that ran in the latest act() (all, kept or not).", () -> {
            Due.each("none", 0, what -> new MastLeft().count(what), 0, 0, 0, 0, 0, 0, 0, 0);
            Due.each("some", 0, what -> Probe.some().count(what), 4, 2, 2, 2, 4, 3, 6, 12);
            Due.each("as many as there may be", 0, what -> Probe.full().count(what), 6, 6, 3, 5, 10, 8, 100, 2);
        });
        Doc.says("BAD.", () -> Probe.bounds("what", Probe::some, what -> x -> x.count(what), 0, 7, -2));
    }

    private static void tape() {
        Doc.promise(36);
        Doc.says("A TAPE becomes a row of n (0 .. 60) of a sort, all 0, or holds nothing (sort -1: n does not matter): 1.", () -> {
            for (int sort = 0; sort <= 4; sort++) {
                for (int n : new int[] {60, 0, 1, 2, 59, 60}) {
                    for (int tape = 0; tape < 6; tape += 5) {
                        becomes(tape, sort, n);
                    }
                }
            }
            for (int n : new int[] {0, 1, 60, 61, -1, LEAST, MOST}) {
                MastLeft x = Probe.some();
                Due.due("tape(0, -1, " + n + ")", x.tape(0, -1, n), 1);
                Due.due("it holds nothing", x.item(0, 0, 1), -11);
                Due.due("nothing to read", x.read(0, 0), MastLeft.NO);
                Due.due("nothing again", x.tape(0, -1, n), 1);
                Due.due("another stays", x.read(1, 0), 50);
            }
        });
        Doc.says("NONE: tape;", () -> Probe.bounds("tape", Probe::some, t -> x -> x.tape(t, 0, 1), 0, 5, -1));
        Doc.says("BAD: sort, n above 60;", () -> {
            Due.each("sort", -1, sort -> Probe.some().tape(0, sort, 1), 1, 1, 1, 1, 1, 1, -2);
            for (int sort : new int[] {-2, 5, MOST, LEAST}) {
                Probe.keeps("sort " + sort, Probe::some, x -> x.tape(0, sort, 4), -2);
                Probe.keeps("sort " + sort + ", SIZE", Probe::some, x -> x.tape(0, sort, -1), -2);
            }
            for (int sort = 0; sort <= 4; sort++) {
                int s = sort;
                Probe.keeps("n 61, sort " + s, Probe::some, x -> x.tape(s, s, 61), -2);
                Probe.keeps("the greatest n, sort " + s, Probe::some, x -> x.tape(s, s, MOST), -2);
            }
        });
        Doc.says("SIZE.", () -> {
            for (int sort = 0; sort <= 4; sort++) {
                int s = sort;
                Probe.keeps("n -1, sort " + s, Probe::some, x -> x.tape(s, s, -1), -14);
                Probe.keeps("the least n, sort " + s, Probe::some, x -> x.tape(s, s, LEAST), -14);
                Probe.keeps("of what holds nothing", Probe::some, x -> x.tape(5, s, -1), -14);
            }
        });
    }

    private static void becomes(int tape, int sort, int n) {
        MastLeft x = new MastLeft();
        x.tape(tape, 3, 60);
        for (int i = 0; i < 60; i++) {
            x.item(tape, i, -1);
        }
        String name = "tape(" + tape + ", " + sort + ", " + n + ")";
        Due.due(name, x.tape(tape, sort, n), 1);
        for (int i = 0; i < 61; i++) {
            Due.due(name + ", item " + i, x.read(tape, i), i < n ? 0 : MastLeft.NO);
        }
        Due.due(name + ", one beyond", x.item(tape, n, 1), -13);
        Due.due(name + ", the last", x.item(tape, n - 1, 1), n == 0 ? -13 : 1);
        Due.due(name + ", the last", x.read(tape, n - 1), n == 0 ? MastLeft.NO : 1);
    }

    private static void item() {
        Doc.promise(37);
        Doc.says("Item i of a TAPE becomes v", () -> {
            MastLeft x = new MastLeft();
            x.tape(0, 3, 60);
            x.tape(5, 3, 60);
            for (int i = 0; i < 60; i++) {
                Due.due("item", x.item(0, i, i * 1000000007L), 1);
                Due.due("item", x.item(5, i, -i), 1);
            }
            for (int i = 0; i < 60; i++) {
                Due.due("item " + i + " of TAPE 0", x.read(0, i), i * 1000000007L);
                Due.due("item " + i + " of TAPE 5", x.read(5, i), -i);
            }
        });
        Doc.says("(its lowest bits, as many as an item has; booleans: whether v is not 0): 1.", PromisesOfTapes::itemsBits);
        Doc.says("NONE;", () -> Probe.bounds("tape", Probe::some, t -> x -> x.item(t, 3, 7), 0, 5, -1));
        Doc.says("NOTHING;", () -> {
            Probe.keeps("what holds nothing", Probe::some, x -> x.item(5, 0, 7), -11);
            Probe.keeps("what never held anything", Probe::bare, x -> x.item(0, 0, 0), -11);
        });
        Doc.says("PLACE.", () -> {
            for (int tape = 0; tape <= 4; tape++) {
                int t = tape;
                Probe.bounds("place, sort " + t, Probe::some, i -> x -> x.item(t, i, 7), 0, 3, -13);
            }
            MastLeft x = new MastLeft();
            x.tape(0, 3, 60);
            Due.due("the last of 60", x.item(0, 59, 1), 1);
            Due.due("a 61st", x.item(0, 60, 1), -13);
            x.tape(0, 3, 0);
            Due.due("the first of none", x.item(0, 0, 1), -13);
        });
    }

    /** v, and what it is as an item of each sort. */
    private static void itemsBits() {
        long[][] due = {
            {0, 0, 0, 0, 0, 0}, {1, 1, 1, 1, 1, 1}, {-1, -1, -1, -1, -1, 1}, {2, 2, 2, 2, 2, 1},
            {127, 127, 127, 127, 127, 1}, {128, -128, 128, 128, 128, 1}, {255, -1, 255, 255, 255, 1}, {256, 0, 256, 256, 256, 1},
            {-128, -128, -128, -128, -128, 1}, {-129, 127, -129, -129, -129, 1},
            {32767, -1, 32767, 32767, 32767, 1}, {32768, 0, -32768, 32768, 32768, 1}, {65535, -1, -1, 65535, 65535, 1},
            {65536, 0, 0, 65536, 65536, 1}, {-32769, -1, 32767, -32769, -32769, 1},
            {MOST, -1, -1, MOST, MOST, 1}, {1L << 31, 0, 0, LEAST, 1L << 31, 1}, {(1L << 32) - 1, -1, -1, -1, (1L << 32) - 1, 1},
            {1L << 32, 0, 0, 0, 1L << 32, 1}, {LEAST - 1L, -1, -1, MOST, LEAST - 1L, 1},
            {Long.MAX_VALUE, -1, -1, -1, Long.MAX_VALUE, 1}, {Long.MIN_VALUE, 0, 0, 0, Long.MIN_VALUE, 1}};
        MastLeft x = new MastLeft();
        for (int sort = 0; sort <= 4; sort++) {
            x.tape(sort, sort, 1);
            for (long[] d : due) {
                Due.due("item of sort " + sort + ", " + d[0], x.item(sort, 0, d[0]), 1);
                Due.due("item of sort " + sort + ", " + d[0], x.read(sort, 0), d[1 + sort]);
            }
        }
    }

    private static void read() {
        Doc.promise(38);
        Doc.says("Item i of a TAPE.", () -> {
            MastLeft x = Probe.some();
            Due.each("bytes", 0, i -> x.read(0, i), 50, 21, 1, 0);
            Due.each("shorts", 0, i -> x.read(1, i), 50, 0, 1, 0);
            Due.each("ints", 0, i -> x.read(2, i), 50, 0, 1, 0);
            Due.each("longs", 0, i -> x.read(3, i), 50, 0, 1, 0);
            Due.each("booleans", 0, i -> x.read(4, i), 1, 0, 1, 0);
        });
        Doc.says("NO: no such TAPE, nothing there, no such place.", () -> {
            Probe.beyond("TAPE", Probe::some, t -> x -> x.read(t, 0), 0, 5, MastLeft.NO);
            Probe.keeps("nothing there", Probe::some, x -> x.read(5, 0), MastLeft.NO);
            Probe.bounds("place", Probe::some, i -> x -> x.read(0, i), 0, 3, MastLeft.NO);
            Probe.bounds("place of a boolean", Probe::some, i -> x -> x.read(4, i), 0, 3, MastLeft.NO);
            Due.due("the first of none", PromisesOfTapes.rows(0, 1).read(0, 0), MastLeft.NO);
            Due.due("a 61st", PromisesOfTapes.rows(60, 1).read(0, 60), MastLeft.NO);
        });
    }

    /** TAPE 0 a row of a shorts: 1, 2, and so on; TAPE 5 a row of b: -1, -2, and so on. */
    private static MastLeft rows(int a, int b) {
        MastLeft x = new MastLeft();
        x.tape(0, 1, a);
        x.tape(5, 1, b);
        for (int i = 0; i < a; i++) {
            x.item(0, i, i + 1);
        }
        for (int i = 0; i < b; i++) {
            x.item(5, i, -1 - i);
        }
        return x;
    }

    private static void row(MastLeft x, int tape, long... due) {
        Due.each("TAPE " + tape + ", item", 0, i -> x.read(tape, i), due);
        Due.due("it ends there", x.read(tape, due.length), MastLeft.NO);
    }

    private static void shift() {
        Doc.promise(39);
        Doc.says("n items of a TAPE from i on come to another one (or the same) from j on, as they all were before: n.", () -> {
            MastLeft x = rows(5, 3);
            Due.due("to another", x.shift(0, 1, 5, 0, 2), 2);
            row(x, 5, 2, 3, -3);
            row(x, 0, 1, 2, 3, 4, 5);
            Due.due("and back", x.shift(5, 1, 0, 3, 2), 2);
            row(x, 0, 1, 2, 3, 3, -3);
            MastLeft up = rows(5, 3);
            Due.due("up, to the same", up.shift(0, 0, 0, 1, 4), 4);
            row(up, 0, 1, 1, 2, 3, 4);
            row(up, 5, -1, -2, -3);
            MastLeft down = rows(5, 3);
            Due.due("down, to the same", down.shift(0, 2, 0, 0, 3), 3);
            row(down, 0, 3, 4, 5, 4, 5);
            Due.due("where they are", down.shift(0, 0, 0, 0, 5), 5);
            row(down, 0, 3, 4, 5, 4, 5);
            Due.due("none, from the end to the end", down.shift(0, 5, 5, 3, 0), 0);
            Due.due("none, of the beginning", down.shift(0, 0, 5, 0, 0), 0);
            row(down, 0, 3, 4, 5, 4, 5);
            row(down, 5, -1, -2, -3);
            Due.due("all of them", down.shift(5, 0, 0, 2, 3), 3);
            row(down, 0, 3, 4, -1, -2, -3);
            MastLeft sixty = rows(60, 60);
            Due.due("sixty", sixty.shift(5, 0, 0, 0, 60), 60);
            Due.due("the last", sixty.read(0, 59), -60);
            MastLeft none = rows(0, 0);
            Due.due("none of none", none.shift(0, 0, 5, 0, 0), 0);
        });
    }

    private static void shiftRefused() {
        Doc.promise(39);
        Doc.says("NONE: tapes;", () -> {
            Probe.bounds("from", Probe::some, t -> x -> x.shift(t, 0, 0, 0, 1), 0, 5, -1);
            Probe.bounds("to", Probe::some, t -> x -> x.shift(0, 0, t, 0, 1), 0, 5, -1);
        });
        Doc.says("NOTHING;", () -> {
            Probe.keeps("from", Probe::some, x -> x.shift(5, 0, 0, 0, 0), -11);
            Probe.keeps("to", Probe::some, x -> x.shift(0, 0, 5, 0, 0), -11);
            Probe.keeps("both", Probe::some, x -> x.shift(5, 0, 5, 0, 0), -11);
        });
        Doc.says("CAST: of unlike sorts;", () -> {
            for (int from = 0; from <= 4; from++) {
                for (int to = 0; to <= 4; to++) {
                    int a = from, b = to;
                    if (a != b) {
                        Probe.keeps("of sort " + a + " to " + b, Probe::some, x -> x.shift(a, 0, b, 0, 0), -12);
                    }
                }
            }
        });
        Doc.says("PLACE: n, i or j is below 0, or beyond either's end.", () -> {
            int[][] wrong = {{0, 0, -1}, {-1, 0, 1}, {0, -1, 1}, {-1, 0, 0}, {0, -1, 0}, {0, 0, 4}, {1, 0, 5}, {3, 0, 3}, {5, 0, 1}, {6, 0, 0},
                {0, 1, 3}, {0, 3, 1}, {0, 4, 0}, {MOST, 0, 0}, {0, MOST, 0}, {0, 0, MOST}, {MOST, 0, 1}, {0, MOST, 1}, {1, 1, MOST},
                {MOST, MOST, MOST}, {LEAST, 0, 0}, {0, LEAST, 0}, {0, 0, LEAST}, {LEAST, 0, MOST}, {0, LEAST, MOST}, {5, 3, LEAST}, {5, 3, 1}};
            for (int[] w : wrong) {
                Probe.keeps("from " + w[0] + " to " + w[1] + ", " + w[2], () -> rows(5, 3), x -> x.shift(0, w[0], 5, w[1], w[2]), -13);
            }
            Probe.keeps("within the longer, beyond the end of the shorter", () -> rows(5, 3), x -> x.shift(5, 0, 0, 0, 4), -13);
            Probe.keeps("to the same, beyond its end", () -> rows(5, 3), x -> x.shift(0, 0, 0, 1, 5), -13);
            Due.due("to the end", rows(5, 3).shift(0, 2, 5, 0, 3), 3);
            Due.due("up to the end", rows(5, 3).shift(5, 0, 0, 2, 3), 3);
        });
    }
}
