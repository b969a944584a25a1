/** The promises 1 to 11, sentence by sentence: pieces, oceans, the mast. */
final class PromisesOfPieces {
    private PromisesOfPieces() {
    }

    static void all() {
        newObject();
        piece();
        of();
        set();
        row();
        hoist();
        lower();
        trim();
        feed();
        ocean();
        told();
    }

    private static void newObject() {
        Doc.promise(1);
        Doc.says("No PIECES, no MAST, no OCEAN.", () -> {
            MastLeft x = new MastLeft();
            Due.each("count", 0, i -> x.count(i), 0, 0, 0, 0, 0, 0, 0, 0);
            Due.each("told", 0, i -> x.told(i), 0, 5, 2, 1, 0, 0, 0, 0, -1, -1, -1);
            Due.due("of(0, 0)", x.of(0, 0), -1001);
            Due.due("hoist(0)", x.hoist(0), -1);
            Due.due("taken(0, 0)", x.taken(0, 0), -11);
            Due.due("trace(0)", x.trace(0), -1);
            Due.due("undo()", x.undo(), -3);
            Due.due("looked()", x.looked(), -5);
            Due.due("another one stands alone", Probe.bare().piece(0, 0, 1), 0);
        });
    }

    private static void piece() {
        Doc.promise(2);
        Doc.says("A PIECE: its number.", () -> {
            MastLeft x = new MastLeft();
            for (int i = 0; i < 6; i++) {
                Due.due("its number", x.piece(6 - i, 9 - i, 99 - i), i);
                Due.due("how many", x.count(0), i + 1);
                for (int p = 0; p <= i; p++) {
                    int piece = p;
                    Due.each("of PIECE " + p, 0, what -> x.of(piece, what), 6 - p, 9 - p, 99 - p, 0, 0, 20);
                }
            }
            Due.due("none stands", x.count(2), 0);
            MastLeft y = Probe.some();
            y.undo();
            Due.due("one more than there are behind undo()", y.piece(0, 0, 7), 3);
            Due.each("as new", 0, what -> y.of(3, what), 0, 0, 7, 0, 0, 20, 20, -5, -5, -5);
            anewBehindUndo();
        });
        Doc.says("NONE: kind;", () -> Probe.bounds("kind", Probe::some, kind -> x -> x.piece(kind, 3, 20), 0, 6, -1));
        Doc.says("BAD: v, length (1 .. 99);", () -> {
            Probe.bounds("v", Probe::some, v -> x -> x.piece(6, v, 20), 0, 9, -2);
            Probe.bounds("length", Probe::some, n -> x -> x.piece(6, 3, n), 1, 99, -2);
        });
        Doc.says("FULL: 6.", () -> {
            Probe.keeps("a seventh", Probe::full, x -> x.piece(0, 0, 1), -4);
            MastLeft x = new MastLeft();
            for (int i = 0; i < 6; i++) {
                Due.due("one of six", x.piece(0, 0, 1), i);
            }
            Due.due("a seventh", x.piece(0, 0, 1), -4);
        });
    }

    /** A PIECE that was undone leaves nothing of its own to the one that comes in its place. */
    private static void anewBehindUndo() {
        MastLeft x = new MastLeft();
        x.image();
        x.piece(6, 4, 60);
        for (int part = 0; part < 4; part++) {
            x.row(0, part, 9);
        }
        x.set(0, 1, 50);
        x.hoist(0);
        x.pass(1);
        x.set(0, 1, 50);
        Due.due("it broke", x.of(0, 4), 1);
        x.undo();
        Due.due("in its place", x.piece(6, 3, 20), 0);
        Due.each("as new", 0, what -> x.of(0, what), 6, 3, 20, 0, 0, 20, 23, -5, -5, -5);
        Due.each("its ROW", 0, part -> x.row(0, part, 0), 0, 0, 0, 0);
    }

    private static void of() {
        Doc.promise(3);
        Doc.says("Of a PIECE what 0 KIND, 1 v, 2 LENGTH, 3 WEAR, 4 BROKE, 5 HEART, 6 STRENGTH, 7 its place in THE MAST (0: the foot), 8 ABOVE it, "
            + "9 its LOAD (7 .. 9: -5: it is not in it).", () -> {
            MastLeft x = Probe.some();
            Due.each("of the foot", 0, what -> x.of(0, what), 2, 3, 50, 2, 0, 20, 28, 0, 68, 15);
            Due.each("of the top", 0, what -> x.of(1, what), 6, 4, 21, 5, 0, 29, 35, 1, 21, 6);
            Due.each("of one that lies", 0, what -> x.of(2, what), 1, 5, 30, 0, 0, 20, 10, -5, -5, -5);
            x.set(0, 1, 16);
            Due.due("the foot breaks", x.pass(1), 12);
            Due.each("of what broke", 0, what -> x.of(0, what), 2, 3, 25, 0, 1, 20, 30, -5, -5, -5);
            Due.each("of what stood upon it", 0, what -> x.of(1, what), 6, 4, 21, 5, 0, 29, 28, -5, -5, -5);
        });
        Doc.says("-1001: NONE.", () -> {
            Probe.bounds("PIECE", Probe::some, p -> x -> x.of(p, 0), 0, 3, -1001);
            Probe.bounds("what", Probe::some, what -> x -> x.of(3, what), 0, 9, -1001);
            MastLeft x = Due.one(0, 0, 1, 0);
            Due.ocean(x, "weak 21 p=0");
            Due.due("HEART -1 is no NONE", x.of(0, 5), -1);
            Due.ocean(x, "weak 25 p=0");
            Due.due("HEART -5 is no -5", x.of(0, 5), -5);
        });
    }

    private static void set() {
        Doc.promise(4);
        Doc.says("Of a PIECE what 0 LENGTH, 1 WEAR becomes n (0 .. 99): what it was.", () -> {
            MastLeft x = Probe.some();
            Due.due("LENGTH was", x.set(1, 0, 99), 21);
            Due.due("WEAR was", x.set(1, 1, 98), 5);
            Due.each("of it", 2, what -> x.of(1, what), 99, 98);
            Due.due("LENGTH was", x.set(1, 0, 0), 99);
            Due.due("WEAR was", x.set(1, 1, 0), 98);
            Due.each("of it", 2, what -> x.of(1, what), 0, 0);
            Due.each("of another", 2, what -> x.of(0, what), 50, 2);
            Due.each("it stands where it stood", 7, what -> x.of(1, what), 1, 0, 2);
        });
        Doc.says("NONE;", () -> {
            Probe.bounds("PIECE", Probe::some, p -> x -> x.set(p, 0, 7), 0, 3, -1);
            Probe.bounds("what", Probe::some, what -> x -> x.set(2, what, 7), 0, 1, -1);
        });
        Doc.says("BAD.", () -> {
            Probe.bounds("LENGTH", Probe::some, n -> x -> x.set(3, 0, n), 0, 99, -2);
            Probe.bounds("WEAR", Probe::some, n -> x -> x.set(3, 1, n), 0, 99, -2);
        });
    }

    private static void row() {
        Doc.promise(5);
        Doc.says("The ROW of a TOLD one becomes n (0 .. 9) for DAYS modulo 4 being part: what it was.", () -> {
            MastLeft x = Probe.some();
            Due.each("what it was", 0, part -> x.row(1, part, 9 - part), 3, 0, 7, 0);
            Due.each("what it was then", 0, part -> x.row(1, part, part), 9, 8, 7, 6);
            x.lower(0);
            for (int day = 2; day < 10; day++) {
                Due.due("STRENGTH on DAY " + day, x.of(1, 6), 29 - 5 + 4 + day % 4);
                x.pass(1);
            }
            MastLeft six = new MastLeft();
            for (int i = 0; i < 24; i++) {
                int p = i / 4;
                if (i % 4 == 0) {
                    six.piece(6, 0, 1);
                }
                Due.due("0 at first", six.row(p, i % 4, (p + i) % 10), 0);
            }
            for (int i = 0; i < 24; i++) {
                Due.due("each one's own", six.row(i / 4, i % 4, 0), (i / 4 + i) % 10);
            }
        });
        Doc.says("NONE: piece, part;", () -> {
            Probe.beyond("piece", Probe::some, p -> x -> x.row(p, 0, 7), 0, 3, -1);
            Probe.bounds("part", Probe::some, part -> x -> x.row(1, part, 7), 0, 3, -1);
        });
        Doc.says("BAD;", () -> {
            Probe.bounds("n", Probe::some, n -> x -> x.row(1, 2, n), 0, 9, -2);
            Probe.beyond("n, of another KIND", Probe::some, n -> x -> x.row(0, 2, n), 0, 9, -2);
        });
        Doc.says("STATE: another KIND.", () -> {
            for (int kind = 0; kind <= 6; kind++) {
                int k = kind;
                Probe.keeps("of KIND " + k, () -> Due.one(k, 3, 20, 1), x -> x.row(0, 3, 0), k == 6 ? 0 : -3);
            }
        });
    }

    private static void hoist() {
        Doc.promise(6);
        Doc.says("A PIECE is put upon THE MAST: how many there are.", () -> {
            MastLeft x = Due.one(0, 0, 10, 0);
            for (int i = 1; i < 6; i++) {
                x.piece(0, 0, 10 + i);
            }
            Due.due("hoist(5)", x.hoist(5), 1);
            Due.due("hoist(0)", x.hoist(0), 2);
            Due.due("hoist(3)", x.hoist(3), 3);
            Due.each("from the foot on", 10, k -> x.told(k), 5, 0, 3, -1);
            x.lower(0);
            Due.due("one that was taken down", x.hoist(0), 2);
            Due.each("from the foot on", 10, k -> x.told(k), 5, 0, -1);
        });
        Doc.says("NONE;", () -> Probe.beyond("PIECE", Probe::some, p -> x -> x.hoist(p), 0, 3, -1));
        Doc.says("STATE: it is in it;", () -> {
            Probe.keeps("the foot", Probe::some, x -> x.hoist(0), -3);
            Probe.keeps("the top", Probe::some, x -> x.hoist(1), -3);
            Probe.keeps("the middle one of three", Probe::full, x -> x.hoist(0), -3);
            Probe.keeps("the top of three", Probe::full, x -> x.hoist(3), -3);
        });
        Doc.says("FULL: there are 3.", () -> {
            Probe.keeps("a fourth", Probe::full, x -> x.hoist(1), -4);
            Probe.keeps("a fourth", Probe::full, x -> x.hoist(5), -4);
            MastLeft x = Due.mast(10, 10, 10);
            x.piece(0, 0, 10);
            Due.due("a fourth, and no IMAGE", x.hoist(3), -4);
            x.image();
            x.lower(0);
            Due.due("the first, and three in THE IMAGE", x.hoist(3), 1);
        });
    }

    private static void lower() {
        Doc.promise(7);
        Doc.says("A PIECE and all upon it are taken down: how many are left.", () -> {
            int[] mast = {2, 0, 3};
            for (int place = 0; place < 3; place++) {
                MastLeft x = Probe.full();
                Due.due("lower " + place, x.lower(mast[place]), place);
                Due.due("left", x.count(2), place);
                for (int i = 0; i < 3; i++) {
                    Due.due("place", x.of(mast[i], 7), i < place ? i : -5);
                    Due.due("told", x.told(10 + i), i < place ? mast[i] : -1);
                    Due.each("as it was", 2, what -> x.of(mast[0], what), 20, 0, 0);
                }
                Due.due("DAY", x.told(0), 0);
            }
        });
        Doc.says("NONE;", () -> Probe.beyond("PIECE", Probe::some, p -> x -> x.lower(p), 0, 3, -1));
        Doc.says("STATE: it is not in THE MAST.", () -> {
            Probe.keeps("one that lies", Probe::some, x -> x.lower(2), -3);
            Probe.keeps("another", Probe::full, x -> x.lower(5), -3);
            MastLeft x = Probe.full();
            x.lower(0);
            Due.due("one that was upon what is down", x.lower(3), -3);
            Due.due("what is down", x.lower(0), -3);
            x.set(2, 1, 99);
            x.pass(1);
            Due.due("what broke", x.lower(2), -3);
        });
    }

    private static void trim() {
        Doc.promise(8);
        Doc.says("SAIL (what 0), STAYS (1) become n: what they were.", () -> {
            MastLeft x = new MastLeft();
            Due.due("SAIL was", x.trim(0, 9), 1);
            Due.due("STAYS were", x.trim(1, 8), 0);
            Due.each("told", 3, what -> x.told(what), 9, 8);
            Due.due("SAIL was", x.trim(0, 0), 9);
            Due.due("STAYS were", x.trim(1, 0), 8);
            Due.each("told", 3, what -> x.told(what), 0, 0);
            Due.due("SAIL was", x.trim(0, 0), 0);
        });
        Doc.says("NONE;", () -> Probe.bounds("what", Probe::some, what -> x -> x.trim(what, 7), 0, 1, -1));
        Doc.says("BAD.", () -> {
            Probe.bounds("SAIL", Probe::some, n -> x -> x.trim(0, n), 0, 9, -2);
            Probe.bounds("STAYS", Probe::some, n -> x -> x.trim(1, n), 0, 9, -2);
        });
    }

    private static void feed() {
        Doc.promise(9);
        Doc.says("A sign (0 .. 127) comes behind THE TEXT's: how many it has.", () -> {
            MastLeft x = new MastLeft();
            for (int i = 1; i <= 100; i++) {
                Due.due("how many", x.feed(i % 2 == 0 ? 127 : 0), i);
            }
            Due.due("none of them begins an OCEAN", x.ocean(), -10);
            Due.due("the first behind ocean()", x.feed('w'), 1);
            Due.due("the second", x.feed('i'), 2);
            Due.due("in their order", x.ocean(), -12);
        });
        Doc.says("BAD;", () -> Probe.bounds("sign", Probe::some, sign -> x -> x.feed(sign), 0, 127, -2));
        Doc.says("FULL.", () -> {
            MastLeft x = new MastLeft();
            for (int i = 0; i < 99; i++) {
                x.feed('w');
            }
            Due.due("the hundredth", x.feed('w'), 100);
            Due.due("a 101st", x.feed('w'), -4);
            Due.due("THE TEXT has", x.count(6), 100);
            Probe.keeps("a 101st", Probe::full, y -> y.feed('w'), -4);
        });
    }

    private static void ocean() {
        Doc.promise(10);
        Doc.says("THE TEXT, which is empty then, is an OCEAN, and holds: its number.", () -> {
            MastLeft x = new MastLeft();
            for (int i = 0; i < 6; i++) {
                Due.due("its number", Due.ocean(x, "wind 2" + i), i);
                Due.due("THE TEXT has", x.count(6), 0);
                Due.due("how many", x.count(1), i + 1);
                Due.due("it holds", x.told(1), 20 + i);
            }
        });
        Doc.says("FULL: there are 6 (THE TEXT stays);", () -> {
            Probe.keeps("a seventh", Probe::full, x -> x.ocean(), -4);
            MastLeft x = new MastLeft();
            for (int i = 0; i < 6; i++) {
                Due.ocean(x, "wind 2" + i);
            }
            Due.due("of no text", x.ocean(), -4);
            Due.due("of a whole text", Due.ocean(x, "wind 9"), -4);
            Due.due("THE TEXT stays", x.count(6), 6);
            Due.due("one more", x.feed(';'), 7);
            Due.due("of a text with a FAULT", x.ocean(), -4);
            Due.due("the sixth holds", x.told(1), 25);
            Due.due("how many", x.count(1), 6);
        });
        Doc.says("-10 less the FAULT (the one that held holds).", () -> {
            MastLeft x = new MastLeft();
            Due.due("of no text", x.ocean(), -10);
            Due.due("none holds", x.told(1), 5);
            Due.ocean(x, "wind 9;lash 8");
            Due.due("at the first byte", Due.ocean(x, "x"), -10);
            Due.due("at the last", Due.ocean(x, "wind 7;lash 6;firm 1 p=0x"), -34);
            Due.due("at the end", Due.ocean(x, "wind 7;lash 6;"), -24);
            Due.due("the one that held holds: WIND", x.told(1), 9);
            Due.due("the one that held holds: LASH", x.told(2), 8);
            Due.due("there is one", x.count(1), 1);
            Due.due("THE TEXT is gone", x.count(6), 0);
            Due.due("the next one's number", Due.ocean(x, "wind 7"), 1);
            Due.due("nothing of a text with a FAULT is left: LASH", x.told(2), 2);
        });
    }

    private static void told() {
        Doc.promise(11);
        Doc.says("What 0 DAY, 1 WIND, 2 LASH, 3 SAIL, 4 STAYS, 5 WENT, 6 HEIGHT, 7 MILES, 10 and k the k-th PIECE of THE MAST.", () -> {
            MastLeft x = Probe.some();
            Due.each("told", 0, what -> x.told(what), 2, 5, 3, 1, 1, 12, 68, 6);
            Due.each("told", 10, what -> x.told(what), 0, 1);
            Due.each("told of three", 10, what -> Probe.full().told(what), 2, 0, 3);
        });
        Doc.says("NONE.", () -> {
            Probe.bounds("none stands", Probe::bare, what -> x -> x.told(what), 0, 7, -1);
            Probe.beyond("8, 9 and beyond the top", Probe::some, what -> x -> x.told(what), 10, 11, -1);
            Probe.beyond("beyond the top of three", Probe::full, what -> x -> x.told(what), 10, 12, -1);
            Probe.keeps("8", Probe::some, x -> x.told(8), -1);
            for (int far : new int[] {14, 15, 16, 17, 20, 99}) {
                Due.due("told(" + far + ")", Probe.full().told(far), -1);
            }
        });
    }
}
