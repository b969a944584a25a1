import java.util.function.Consumer;
import java.util.function.Supplier;

/** The ACTS and THE IMAGE, ==== 3 of the document's Terms (TAPES), the answers and the constants. */
final class TermsThree {
    private static final int BENDS = 0, HOLDS = 1, TELLS = 2, MOST = Integer.MAX_VALUE, LEAST = Integer.MIN_VALUE;

    private TermsThree() {
    }

    static void all() {
        Doc.terms("==== 2");
        acts();
        bodies();
        whichBody();
        image();
        Doc.terms("==== 3");
        tapes();
        judged();
        host();
        Doc.terms("Answers:");
        answers();
        Doc.terms("The constants:");
        Doc.says("NO = Long.MIN_VALUE: There is no such number.", () -> {
            Due.due("NO", MastLeft.NO, Long.MIN_VALUE);
            Due.due("there is no such number", new MastLeft().mean(0), MastLeft.NO);
        });
    }

    // ---- ACTS

    /** An ACT of PIECE i of a KIND with v and x, and the bodies that are due. */
    private static void act(int[] kindIV, int act, int x, int due, int... bodies) {
        MastLeft m = new MastLeft();
        for (int i = 0; i < kindIV[1]; i++) {
            m.piece(2, 9, 1);
        }
        m.piece(kindIV[0], kindIV[2], 1);
        String name = "KIND " + kindIV[0] + ", number " + kindIV[1] + ", v " + kindIV[2] + ": " + act + " with " + x;
        Due.due(name, m.act(kindIV[1], act, x), due);
        Due.due(name + ": how many bodies ran", m.count(7), bodies.length);
        for (int i = 0; i < bodies.length; i++) {
            Due.due(name + ": body " + i, m.trace(i), bodies[i]);
        }
        Due.due(name + ": no more", m.trace(bodies.length), -1);
    }

    private static int[] a(int kind, int i, int v) {
        return new int[] {kind, i, v};
    }

    private static void acts() {
        Doc.says("ACTS of a PIECE with x (wrapping): 0 bends, 1 holds, 2 tells; i its number.", () -> {
            act(a(0, 1, 3), BENDS, 10, 11, 10);
            act(a(0, 1, 3), HOLDS, 10, 8, 11, 10);
            act(a(0, 1, 3), TELLS, 10, 16, 12, 11, 10);
            act(a(0, 5, 0), BENDS, 0, 5, 10);
            act(a(0, 1, 0), BENDS, MOST, LEAST, 10);
            act(a(0, 0, 1), HOLDS, LEAST, MOST, 11, 10);
            act(a(0, 0, 0), TELLS, 1 << 30, LEAST, 12, 11, 10);
            act(a(2, 3, 0), BENDS, MOST, LEAST, 30, 10);
            act(a(4, 0, 0), BENDS, LEAST, LEAST, 50, 10);
            act(a(4, 0, 0), HOLDS, MOST, LEAST ^ 6, 51, 20, 11, 50, 10);
            act(a(5, 1, 0), TELLS, LEAST, MOST * 3 * 2 + 2, 60, 12, 11, 30, 10);
        });
    }

    private static void bodies() {
        Doc.says("BODIES: PIECE: 10 bends: x + i.", () -> act(a(0, 4, 9), BENDS, -3, 1, 10));
        Doc.says("11 holds: bends(x) - v.", () -> act(a(0, 4, 9), HOLDS, -3, -8, 11, 10));
        Doc.says("12 tells: holds(x) * 2.", () -> act(a(0, 4, 9), TELLS, -3, -16, 12, 11, 10));
        Doc.says("OAR: 20 holds: super.holds(x) ^ 6.", () -> {
            act(a(1, 1, 5), HOLDS, 11, 1, 20, 11, 10);
            act(a(1, 1, 5), HOLDS, 3, -1 ^ 6, 20, 11, 10);
        });
        Doc.says("BOOM: 30 bends: super.bends(x * 3).", () -> act(a(2, 2, 2), BENDS, 10, 32, 30, 10));
        Doc.says("POLE: 40 tells: super.tells(x) + holds(1).", () -> act(a(3, 3, 1), TELLS, 10, 27, 40, 12, 11, 10, 11, 10));
        Doc.says("WIRED: 50 bends: -super.bends(x).", () -> act(a(4, 4, 4), BENDS, 10, -14, 50, 10));
        Doc.says("51 holds: super.holds(x + 1).", () -> act(a(4, 4, 4), HOLDS, 10, -21, 51, 20, 11, 50, 10));
        Doc.says("CRACKED: 60 tells: super.tells(x - i).", () -> act(a(5, 5, 7), TELLS, 10, 26, 60, 12, 11, 30, 10));
        Doc.says("TOLD: 70 holds: super.holds(x) + super.bends(2).", () -> act(a(6, 1, 6), HOLDS, 10, 10, 70, 11, 71, 10, 10));
        Doc.says("71 bends: super.bends(x) ^ v.", () -> act(a(6, 1, 6), BENDS, 10, 13, 71, 10));
    }

    private static void whichBody() {
        Doc.says("bends(..) and so on: the body of its KIND, or, if that has none, of the next KIND above that has one;", () -> {
            act(a(1, 1, 5), BENDS, 11, 12, 10);
            act(a(1, 1, 5), TELLS, 11, 2, 12, 20, 11, 10);
            act(a(2, 2, 2), HOLDS, 10, 30, 11, 30, 10);
            act(a(2, 2, 2), TELLS, 10, 60, 12, 11, 30, 10);
            act(a(3, 3, 1), BENDS, 10, 13, 10);
            act(a(3, 3, 1), HOLDS, 10, 12, 11, 10);
            act(a(4, 4, 4), TELLS, 10, -42, 12, 51, 20, 11, 50, 10);
            act(a(5, 5, 7), BENDS, 10, 35, 30, 10);
            act(a(5, 5, 7), HOLDS, 10, 28, 11, 30, 10);
            act(a(6, 1, 6), TELLS, 10, 21, 40, 12, 70, 11, 71, 10, 10, 70, 11, 71, 10, 10);
        });
        Doc.says("super.bends(..): so from the KIND above the body's on;", () -> {
            act(a(5, 5, 0), BENDS, 1, 8, 30, 10);
            act(a(4, 0, 0), HOLDS, 0, -1 ^ 6, 51, 20, 11, 50, 10);
            act(a(5, 0, 0), TELLS, 1, 6, 60, 12, 11, 30, 10);
            act(a(6, 0, 0), HOLDS, 4, 6, 70, 11, 71, 10, 10);
        });
        Doc.says("all that stands in a body is done from the left on.", () -> {
            act(a(3, 0, 0), TELLS, 0, 1, 40, 12, 11, 10, 11, 10);
            act(a(6, 0, 0), HOLDS, 0, 2, 70, 11, 71, 10, 10);
        });
        Doc.says("THE TRACE: the numbers of the bodies that ran in the latest act(), as they began; the first 20 are kept.", () -> {
            MastLeft x = new MastLeft();
            x.piece(6, 6, 1);
            x.piece(0, 0, 1);
            x.act(0, TELLS, 10);
            Due.each("the longest there is, all kept", 0, i -> x.trace(i), 40, 12, 70, 11, 71, 10, 10, 70, 11, 71, 10, 10, -1);
            Due.due("how many", x.count(7), 12);
            x.act(1, BENDS, 10);
            Due.each("the latest alone", 0, i -> x.trace(i), 10, -1, -1);
            x.act(1, TELLS, 10);
            Due.each("the latest alone", 0, i -> x.trace(i), 12, 11, 10, -1);
        });
    }

    // ---- THE IMAGE

    /** What is done behind an image is undone, twice. */
    private static void undone(String name, Supplier<MastLeft> made, int pieces, Consumer<MastLeft> done) {
        MastLeft left = made.get(), asked = made.get();
        Due.due(name + ": image", left.image(), pieces);
        Due.due(name + ": image", asked.image(), pieces);
        done.accept(asked);
        Due.due(name + ": undo", asked.undo(), pieces);
        Probe.alike(name, left, asked);
        left = made.get();
        asked = made.get();
        left.image();
        asked.image();
        done.accept(asked);
        asked.undo();
        done.accept(asked);
        Due.due(name + ": undo again", asked.undo(), pieces);
        Probe.alike(name + ", twice", left, asked);
    }

    private static void image() {
        Doc.says("THE IMAGE: PIECES with all that is theirs, THE MAST, SAIL, STAYS, WENT, DAY, SEEN, the PLAN, the BOOK, which OCEAN holds.", () -> {
            undone("a PIECE more", Probe::some, 4, x -> x.piece(3, 9, 99));
            undone("LENGTH", Probe::some, 4, x -> x.set(2, 0, 99));
            undone("WEAR", Probe::some, 4, x -> x.set(2, 1, 99));
            undone("BROKE", Probe::some, 4, x -> {
                x.set(1, 1, 99);
                x.pass(1);
            });
            undone("ROW", Probe::some, 4, x -> {
                for (int part = 0; part < 4; part++) {
                    x.row(1, part, 8);
                }
            });
            undone("ROWS of six", TermsThree::sixTold, 6, x -> {
                for (int i = 0; i < 24; i++) {
                    x.row(i / 4, i % 4, 9 - i % 10);
                }
            });
            undone("v and KIND", Probe::bare, 0, x -> x.piece(6, 6, 6));
            undone("THE MAST, one more", Probe::some, 4, x -> x.hoist(3));
            undone("THE MAST, another order", Probe::full, 6, x -> {
                x.lower(2);
                x.hoist(3);
                x.hoist(0);
                x.hoist(2);
            });
            undone("SAIL", Probe::some, 4, x -> x.trim(0, 9));
            undone("STAYS", Probe::some, 4, x -> x.trim(1, 9));
            undone("WENT and DAY", Probe::some, 4, x -> x.pass(9));
            undone("SEEN more", Probe::some, 4, x -> x.see(0, 0));
            undone("none SEEN, and another", Probe::some, 4, x -> {
                x.see(-1, 0);
                x.see(0, 0);
            });
            undone("the PLAN, a row more", Probe::some, 4, x -> x.plan(4, 0));
            undone("another PLAN", Probe::full, 6, x -> {
                x.plan(-1, 0);
                x.plan(4, 0);
            });
            undone("the BOOK, a row more", Probe::some, 4, x -> x.book(0, 1));
            undone("another BOOK", Probe::full, 6, x -> {
                x.book(-1, 0);
                x.book(0, 1);
            });
            whichOceanHolds();
        });
    }

    private static MastLeft sixTold() {
        MastLeft x = new MastLeft();
        for (int i = 0; i < 24; i++) {
            if (i % 4 == 0) {
                x.piece(6, i / 4, 10);
            }
            x.row(i / 4, i % 4, i % 10);
        }
        return x;
    }

    private static void whichOceanHolds() {
        MastLeft x = Due.one(0, 0, 1, 0);
        x.image();
        Due.due("OCEAN 0", Due.ocean(x, "wind 9;lash 8;firm 1 p=0"), 0);
        x.undo();
        Due.due("none: WIND", x.told(1), 5);
        Due.due("none: LASH", x.told(2), 2);
        Due.due("none: HEART", x.of(0, 5), 20);
        Due.due("OCEAN 1", Due.ocean(x, "wind 7"), 1);
        x.image();
        Due.due("OCEAN 2", Due.ocean(x, "wind 6"), 2);
        x.undo();
        Due.due("OCEAN 1 holds", x.told(1), 7);
        Due.due("there are 3 all the same", x.count(1), 3);
        Due.due("OCEAN 3", Due.ocean(x, "wind 3"), 3);
        Due.due("OCEAN 3 holds", x.told(1), 3);
        x.undo();
        Due.due("OCEAN 1 holds again", x.told(1), 7);
    }

    // ---- TAPES

    private static void tapes() {
        Doc.says("TAPES 0 .. 5 hold nothing (at first), or a row of 0 bytes, 1 shorts, 2 ints, 3 longs, 4 booleans (items 0, 1).", () -> {
            long v = 0x7654321087654321L;
            long[] due = {0x21, 0x4321, 0x87654321, v, 1};
            for (int tape = 0; tape < 6; tape++) {
                MastLeft x = new MastLeft();
                Due.due("nothing at first", x.item(tape, 0, 1), -11);
                Due.due("nothing at first", x.read(tape, 0), MastLeft.NO);
                for (int sort = 0; sort <= 4; sort++) {
                    Due.due("sort " + sort, x.tape(tape, sort, 2), 1);
                    Due.due("item", x.item(tape, 1, v), 1);
                    Due.due("an item of sort " + sort, x.read(tape, 1), due[sort]);
                    Due.due("the other item", x.read(tape, 0), 0);
                }
                Due.due("nothing again", x.tape(tape, -1, 0), 1);
                Due.due("nothing again", x.item(tape, 0, 1), -11);
            }
            Probe.beyond("item, TAPE", Probe::some, t -> x -> x.item(t, 0, 1), 0, 5, -1);
        });
    }

    /** PIECES of 10, 20, 30, 99 feet, and TAPE 0 of these bytes. */
    private static MastLeft told(long... bytes) {
        MastLeft x = new MastLeft();
        for (int length : new int[] {10, 20, 30, 99}) {
            x.piece(0, 0, length);
        }
        x.tape(0, 0, bytes.length);
        for (int i = 0; i < bytes.length; i++) {
            x.item(0, i, bytes[i]);
        }
        return x;
    }

    private static void judged() {
        Doc.says("LENGTHS told by a row of bytes, from a place on, one by one, are JUDGED: the first that is otherwise;", () -> {
            Due.due("the first", told(9, 20, 30, 99).judge(0, 0), 0);
            Due.due("the second", told(10, 21, 31, 99).judge(0, 0), 1);
            Due.due("the third", told(10, 20, 29, 98).judge(0, 0), 2);
            Due.due("the last", told(10, 20, 30, -99).judge(0, 0), 3);
            Due.due("the last, of 355", told(10, 20, 30, 355).judge(0, 0), -5);
            Due.due("from place 1 on, the first", told(10, 20, 30, 99).judge(0, 1), 0);
            Due.due("from place 2 on, the third", told(7, 7, 10, 20, 31, 99).judge(0, 2), 2);
            Due.due("otherwise ahead of the end", told(10, 21).judge(0, 0), 1);
        });
        Doc.says("-5: none, or there is none to look at;", () -> {
            Due.due("none", told(10, 20, 30, 99).judge(0, 0), -5);
            Due.due("none, from place 2 on", told(1, 2, 10, 20, 30, 99).judge(0, 2), -5);
            Due.due("none, and more stands there", told(10, 20, 30, 99, 1).judge(0, 0), -5);
            MastLeft x = new MastLeft();
            x.tape(1, 0, 3);
            Due.due("no PIECES, nothing held", x.judge(0, 0), -5);
            Due.due("no PIECES", x.judge(1, 0), -5);
            Due.due("no PIECES, no such place", x.judge(1, 3), -5);
            Due.due("no PIECES, a place below 0", x.judge(1, -1), -5);
        });
        Doc.says("100 and how many were looked at, if the row ends ahead of that (or the place is below 0, or the TAPE holds nothing).", () -> {
            Due.due("no bytes", told().judge(0, 0), 100);
            Due.due("one", told(10).judge(0, 0), 101);
            Due.due("two", told(10, 20).judge(0, 0), 102);
            Due.due("three", told(10, 20, 30).judge(0, 0), 103);
            Due.due("from the end on", told(10, 20, 30, 99).judge(0, 4), 100);
            Due.due("from the last on", told(1, 2, 3, 10).judge(0, 3), 101);
            Due.due("from beyond the end on", told(10, 20, 30, 99).judge(0, 5), 100);
            Due.due("from the greatest place on", told(10, 20, 30, 99).judge(0, MOST), 100);
            Due.due("below 0", told(10, 20, 30, 99).judge(0, -1), 100);
            Due.due("the least place", told(10, 20, 30, 99).judge(0, LEAST), 100);
            Due.due("nothing is held", told(10, 20, 30, 99).judge(1, 0), 100);
            Due.due("nothing is held, below 0", told(10, 20, 30, 99).judge(5, -1), 100);
            MastLeft x = told(10, 20, 30, 99);
            x.tape(0, -1, 0);
            Due.due("nothing is held any more", x.judge(0, 0), 100);
            x.set(0, 0, 0);
            x.tape(0, 0, 0);
            Due.due("a row of none, and 0 feet", x.judge(0, 0), 100);
        });
    }

    private static void host() {
        Doc.says("The host's refusals: NOTHING (-11): nothing is there;", () -> {
            Probe.keeps("item", Probe::some, x -> x.item(5, 0, 1), -11);
            Probe.keeps("shift from", Probe::some, x -> x.shift(5, 0, 0, 0, 0), -11);
            Probe.keeps("shift to", Probe::some, x -> x.shift(0, 0, 5, 0, 0), -11);
            Probe.keeps("taken", Probe::some, x -> x.taken(4, 0), -11);
        });
        Doc.says("CAST (-12): another sort or KIND;", () -> {
            Probe.keeps("judge", Probe::some, x -> x.judge(1, 0), -12);
            Probe.keeps("shift", Probe::some, x -> x.shift(1, 0, 2, 0, 1), -12);
            Probe.keeps("taken", Probe::some, x -> x.taken(0, 1), -12);
        });
        Doc.says("PLACE (-13): no such place;", () -> {
            Probe.keeps("item", Probe::some, x -> x.item(0, 4, 1), -13);
            Probe.keeps("shift", Probe::some, x -> x.shift(0, 0, 0, 1, 4), -13);
        });
        Doc.says("SIZE (-14): a size below 0.", () -> Probe.keeps("tape", Probe::some, x -> x.tape(0, 0, -1), -14));
    }

    // ---- answers

    private static void answers() {
        Doc.says("NONE (-1) no such number;", () -> {
            Due.due("NONE", MastLeft.NONE, -1);
            Probe.keeps("hoist(4)", Probe::some, x -> x.hoist(4), MastLeft.NONE);
        });
        Doc.says("BAD (-2) a number is not as told;", () -> {
            Due.due("BAD", MastLeft.BAD, -2);
            Probe.keeps("trim(0, 10)", Probe::some, x -> x.trim(0, 10), MastLeft.BAD);
        });
        Doc.says("STATE (-3) as told;", () -> {
            Due.due("STATE", MastLeft.STATE, -3);
            Probe.keeps("lower(2)", Probe::some, x -> x.lower(2), MastLeft.STATE);
        });
        Doc.says("FULL (-4);", () -> {
            Due.due("FULL", MastLeft.FULL, -4);
            Probe.keeps("see(0, 0)", Probe::full, x -> x.see(0, 0), MastLeft.FULL);
        });
        Doc.says("the first that a call's words name.", () -> {
            firstNamedOfPieces();
            firstNamedOfDays();
            firstNamedOfTapes();
        });
        Doc.says("What is answered so changes nothing;", () -> {
            Probe.keeps("lower(1)", Probe::full, x -> x.lower(1), -3);
            Probe.keeps("hoist(1)", Probe::full, x -> x.hoist(1), -4);
            Probe.keeps("piece(0, 0, 1)", Probe::full, x -> x.piece(0, 0, 1), -4);
            Probe.keeps("feed('w')", Probe::full, x -> x.feed('w'), -4);
            Probe.keeps("ocean()", Probe::full, x -> x.ocean(), -4);
            Probe.keeps("undo()", Probe::bare, x -> x.undo(), -3);
            Probe.keeps("pass(1)", Probe::late, x -> x.pass(1), -3);
        });
        Doc.says("what is asked changes nothing.", () -> Asks.all("on DAY 4", () -> {
            MastLeft x = Probe.some();
            x.pass(2);
            x.lower(1);
            x.hoist(3);
            x.hoist(1);
            return x;
        }));
    }

    private static void firstNamedOfPieces() {
        Probe.keeps("piece, all", Probe::full, x -> x.piece(7, 10, 0), -1);
        Probe.keeps("piece, BAD and FULL", Probe::full, x -> x.piece(0, 10, 1), -2);
        Probe.keeps("piece, BAD and FULL", Probe::full, x -> x.piece(0, 0, 0), -2);
        Probe.keeps("set, PIECE and n", Probe::some, x -> x.set(4, 0, 100), -1);
        Probe.keeps("set, what and n", Probe::some, x -> x.set(0, 2, 100), -1);
        Probe.keeps("row, PIECE and n", Probe::some, x -> x.row(4, 0, 10), -1);
        Probe.keeps("row, part, n and KIND", Probe::some, x -> x.row(0, 4, 10), -1);
        Probe.keeps("row, part and KIND", Probe::some, x -> x.row(0, 4, 0), -1);
        Probe.keeps("row, n and KIND", Probe::some, x -> x.row(0, 0, 10), -2);
        Probe.keeps("hoist, STATE and FULL", Probe::full, x -> x.hoist(2), -3);
        Probe.keeps("hoist, NONE and FULL", Probe::full, x -> x.hoist(6), -1);
        Probe.keeps("trim, what and n", Probe::some, x -> x.trim(2, 10), -1);
        Probe.keeps("feed, BAD and FULL", Probe::full, x -> x.feed(128), -2);
        Probe.keeps("ocean, FULL and a FAULT", Probe::full, x -> x.ocean(), -4);
        Probe.keeps("taken, k and PIECE", Probe::some, x -> x.taken(4, 7), -2);
        Probe.keeps("taken, PIECE and KIND", Probe::some, x -> x.taken(4, 6), -11);
    }

    private static void firstNamedOfDays() {
        Probe.keeps("pass, BAD and STATE", Probe::late, x -> x.pass(61), -2);
        Probe.keeps("on, what and n", Probe::some, x -> x.on(61, 3), -1);
        Probe.keeps("on, PIECE and n", Probe::some, x -> x.on(-1, 14), -1);
        Probe.keeps("see, BAD and FULL", Probe::full, x -> x.see(4, 0), -2);
        Probe.keeps("see, BAD and FULL", Probe::full, x -> x.see(0, 21), -2);
        Probe.keeps("plan, NONE and FULL", Probe::full, x -> x.plan(5, 0), -1);
        Probe.keeps("plan, PIECE and FULL", Probe::full, x -> x.plan(3, 6), -1);
        Probe.keeps("plan, BAD and FULL", Probe::full, x -> x.plan(1, 10), -2);
        Probe.keeps("plan, BAD and FULL", Probe::full, x -> x.plan(2, -1), -2);
        Probe.keeps("book, all", Probe::full, x -> x.book(6, 100), -1);
        Probe.keeps("book, NONE and BAD", Probe::some, x -> x.book(4, 100), -1);
        Probe.keeps("book, BAD and FULL", Probe::full, x -> x.book(0, 100), -2);
    }

    private static void firstNamedOfTapes() {
        Probe.keeps("judge, CAST and no place", Probe::some, x -> x.judge(1, -1), -12);
        Probe.keeps("tape, all", Probe::some, x -> x.tape(6, 5, 61), -1);
        Probe.keeps("tape, NONE and SIZE", Probe::some, x -> x.tape(6, 0, -1), -1);
        Probe.keeps("tape, NONE, nothing to hold", Probe::some, x -> x.tape(6, -1, 0), -1);
        Probe.keeps("tape, BAD and SIZE", Probe::some, x -> x.tape(0, 5, -1), -2);
        Probe.keeps("item, NONE and PLACE", Probe::some, x -> x.item(6, -1, 0), -1);
        Probe.keeps("item, NOTHING and PLACE", Probe::some, x -> x.item(5, -1, 0), -11);
        Probe.keeps("shift, NONE and NOTHING", Probe::some, x -> x.shift(5, -1, 6, -1, -1), -1);
        Probe.keeps("shift, NONE and NOTHING", Probe::some, x -> x.shift(6, -1, 5, -1, -1), -1);
        Probe.keeps("shift, NOTHING and PLACE", Probe::some, x -> x.shift(5, -1, 0, -1, -1), -11);
        Probe.keeps("shift, NOTHING and PLACE", Probe::some, x -> x.shift(0, -1, 5, -1, -1), -11);
        Probe.keeps("shift, CAST and PLACE", Probe::some, x -> x.shift(0, -1, 1, -1, -1), -12);
    }
}
