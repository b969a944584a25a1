/** Promises 1 to 11: a new object, pieces, the mast, oceans. */
public final class PiecesTest {
    public static void main(String[] args) {
        promise1NewObject();
        promise2Piece();
        promise3Of();
        promise3Strength();
        promise3RowsAreEachOnesOwn();
        promise3AboveAndLoad();
        promise4Set();
        promise5Row();
        promise6Hoist();
        promise7Lower();
        promise8Trim();
        promise9Feed();
        promise10Ocean();
        promise10Faults();
        promise10Tests();
        promise11Told();
        Due.end();
    }

    private static void promise1NewObject() {
        MastLeft x = new MastLeft();
        for (int what = 0; what <= 7; what++) {
            Due.due("new: count(" + what + ")", x.count(what), 0);
        }
        long[] told = {0, 5, 2, 1, 0, 0, 0, 0};
        for (int what = 0; what < told.length; what++) {
            Due.due("new: told(" + what + ")", x.told(what), told[what]);
        }
        Due.due("new: told(10)", x.told(10), -1);
        Due.due("new: of(0, 0)", x.of(0, 0), -1001);
        Due.due("new: undo()", x.undo(), -3);
        Due.due("new: trace(0)", x.trace(0), -1);
        for (int t = 0; t < 6; t++) {
            Due.due("new: read(" + t + ", 0)", x.read(t, 0), Long.MIN_VALUE);
            Due.due("new: item(" + t + ", 0, 1)", x.item(t, 0, 1), -11);
        }
    }

    private static void promise2Piece() {
        MastLeft x = new MastLeft();
        Due.due("piece kind below", x.piece(-1, 0, 1), -1);
        Due.due("piece kind above", x.piece(7, 10, 0), -1);
        Due.due("piece v below", x.piece(0, -1, 1), -2);
        Due.due("piece v above", x.piece(0, 10, 1), -2);
        Due.due("piece length 0", x.piece(0, 0, 0), -2);
        Due.due("piece length 100", x.piece(0, 0, 100), -2);
        Due.due("no piece came", x.count(0), 0);
        Due.due("piece 0", x.piece(0, 0, 1), 0);
        Due.due("piece 1", x.piece(6, 9, 99), 1);
        for (int i = 2; i < 6; i++) {
            Due.due("piece " + i, x.piece(i, i, i), i);
        }
        Due.due("a seventh", x.piece(0, 0, 1), -4);
        Due.due("a seventh, kind", x.piece(7, 0, 1), -1);
        Due.due("a seventh, bad", x.piece(0, 0, 0), -2);
        Due.due("count(0)", x.count(0), 6);
        pieceAfterUndoIsNew();
    }

    private static void pieceAfterUndoIsNew() {
        MastLeft x = new MastLeft();
        x.image();
        x.piece(6, 4, 60);
        x.row(0, 0, 9);
        x.set(0, 1, 50);
        x.hoist(0);
        x.pass(1);
        Due.due("it broke", x.of(0, 4), 1);
        x.set(0, 1, 50);
        x.undo();
        Due.due("piece again", x.piece(6, 3, 20), 0);
        Due.due("length anew", x.of(0, 2), 20);
        Due.due("wear anew", x.of(0, 3), 0);
        Due.due("broke anew", x.of(0, 4), 0);
        Due.due("row anew", x.row(0, 0, 0), 0);
    }

    private static void promise3Of() {
        MastLeft x = new MastLeft();
        x.piece(3, 7, 42);
        x.piece(1, 2, 9);
        Due.due("KIND", x.of(0, 0), 3);
        Due.due("v", x.of(0, 1), 7);
        Due.due("LENGTH", x.of(0, 2), 42);
        Due.due("WEAR", x.of(0, 3), 0);
        Due.due("BROKE", x.of(0, 4), 0);
        Due.due("HEART", x.of(0, 5), 20);
        for (int what = 7; what <= 9; what++) {
            Due.due("not in the mast, " + what, x.of(0, what), -5);
        }
        x.hoist(1);
        x.hoist(0);
        Due.due("place", x.of(0, 7), 1);
        Due.due("place of the foot", x.of(1, 7), 0);
        Due.due("of(2, 0)", x.of(2, 0), -1001);
        Due.due("of(-1, 0)", x.of(-1, 0), -1001);
        Due.due("of(0, -1)", x.of(0, -1), -1001);
        Due.due("of(0, 10)", x.of(0, 10), -1001);
        x.set(1, 1, 60);
        x.pass(1);
        Due.due("it broke", x.of(1, 4), 1);
        x.hoist(1);
        x.set(1, 1, 60);
        x.pass(1);
        Due.due("it broke twice", x.of(1, 4), 2);
    }

    private static void promise3Strength() {
        MastLeft x = new MastLeft();
        int[] kinds = {0, 1, 2, 3, 4, 5};
        long[] due = {23, 9, 33, 26, 13, 29};
        for (int kind : kinds) {
            x.piece(kind, 3, 10);
            x.set(kind, 1, 4);
        }
        x.trim(1, 2);
        Due.ocean(x, "firm 9 p<9;weak 2 p<9");
        for (int kind : kinds) {
            Due.due("HEART of kind " + kind, x.of(kind, 5), 27);
            Due.due("STRENGTH of kind " + kind, x.of(kind, 6), due[kind]);
        }
        Due.ocean(x, "weak 27 p<9");
        Due.due("HEART below 0", x.of(4, 5), -7);
        x.trim(1, 9);
        Due.due("half of it cut toward 0", x.of(4, 6), -3 - 4 + 18);
        Due.due("STRENGTH is 0 at least", x.of(0, 6), 0);
        x = new MastLeft();
        x.piece(6, 3, 10);
        x.set(0, 1, 4);
        for (int part = 0; part < 4; part++) {
            x.row(0, part, 5 + part);
        }
        for (int day = 0; day < 6; day++) {
            Due.due("TOLD on day " + day, x.of(0, 6), 20 - 4 + 3 + 5 + day % 4);
            x.pass(1);
        }
    }

    private static void promise3RowsAreEachOnesOwn() {
        MastLeft x = new MastLeft();
        for (int p = 0; p < 6; p++) {
            x.piece(6, 0, 10);
            for (int part = 0; part < 4; part++) {
                x.row(p, part, p + part);
            }
        }
        for (int day = 0; day < 8; day++) {
            for (int p = 0; p < 6; p++) {
                Due.due("TOLD " + p + " on day " + day, x.of(p, 6), 20 + p + day % 4);
            }
            x.pass(1);
        }
    }

    private static void promise3AboveAndLoad() {
        MastLeft x = Due.mast(10, 20, 31);
        long[] above = {57, 49, 31};
        for (int p = 0; p < 3; p++) {
            Due.due("ABOVE " + p, x.of(p, 8), above[p]);
            Due.due("LOAD by sail 1 of " + p, x.of(p, 9), above[p] / 5 + 5);
        }
        x.trim(0, 3);
        for (int p = 0; p < 3; p++) {
            Due.due("LOAD by sail 3 of " + p, x.of(p, 9), above[p] * 3 / 5 + 5);
        }
        x.trim(1, 9);
        Due.due("LOAD less 27", x.of(0, 9), 34 + 5 - 27);
        Due.due("LOAD is 0 at least", x.of(2, 9), 0);
        Due.ocean(x, "wind 7;lash 40;wind 30");
        Due.due("ABOVE is 0 at least", x.of(0, 8), 0);
        Due.due("ABOVE by lash 40", x.of(1, 8), 11);
        Due.due("LOAD by the last wind", x.of(1, 9), 6 + 30 - 27);
    }

    private static void promise4Set() {
        MastLeft x = new MastLeft();
        x.piece(0, 0, 30);
        Due.due("set LENGTH", x.set(0, 0, 99), 30);
        Due.due("LENGTH", x.of(0, 2), 99);
        Due.due("set LENGTH 0", x.set(0, 0, 0), 99);
        Due.due("set WEAR", x.set(0, 1, 99), 0);
        Due.due("WEAR", x.of(0, 3), 99);
        Due.due("LENGTH stays", x.of(0, 2), 0);
        Due.due("set WEAR back", x.set(0, 1, 0), 99);
        Due.due("set(1, 0, 1)", x.set(1, 0, 1), -1);
        Due.due("set(-1, 0, 1)", x.set(-1, 0, 1), -1);
        Due.due("set(0, 2, 100)", x.set(0, 2, 100), -1);
        Due.due("set(0, -1, 1)", x.set(0, -1, 1), -1);
        Due.due("set(0, 0, -1)", x.set(0, 0, -1), -2);
        Due.due("set(0, 1, 100)", x.set(0, 1, 100), -2);
        Due.due("nothing changed", x.of(0, 2) + x.of(0, 3), 0);
    }

    private static void promise5Row() {
        MastLeft x = new MastLeft();
        x.piece(6, 0, 30);
        x.piece(3, 0, 30);
        x.piece(6, 0, 30);
        Due.due("row", x.row(0, 3, 9), 0);
        Due.due("row again", x.row(0, 3, 4), 9);
        Due.due("another part", x.row(0, 0, 1), 0);
        Due.due("another piece", x.row(2, 3, 1), 0);
        Due.due("row(3, ..)", x.row(3, 0, 1), -1);
        Due.due("row(-1, ..)", x.row(-1, 0, 1), -1);
        Due.due("part 4", x.row(0, 4, 1), -1);
        Due.due("part -1", x.row(0, -1, 1), -1);
        Due.due("n 10", x.row(0, 0, 10), -2);
        Due.due("n -1", x.row(1, 0, -1), -2);
        Due.due("a POLE", x.row(1, 0, 1), -3);
        Due.due("as it was", x.row(0, 0, 0), 1);
    }

    private static void promise6Hoist() {
        MastLeft x = new MastLeft();
        for (int i = 0; i < 4; i++) {
            x.piece(0, 0, 10);
        }
        Due.due("hoist(4)", x.hoist(4), -1);
        Due.due("hoist(-1)", x.hoist(-1), -1);
        Due.due("hoist(3)", x.hoist(3), 1);
        Due.due("hoist(3) again", x.hoist(3), -3);
        Due.due("hoist(0)", x.hoist(0), 2);
        Due.due("hoist(2)", x.hoist(2), 3);
        Due.due("a fourth", x.hoist(1), -4);
        Due.due("one of the three", x.hoist(2), -3);
        Due.due("foot", x.told(10), 3);
        Due.due("middle", x.told(11), 0);
        Due.due("top", x.told(12), 2);
    }

    private static void promise7Lower() {
        MastLeft x = Due.mast(10, 20, 30);
        x.piece(0, 0, 10);
        Due.due("lower(4)", x.lower(4), -1);
        Due.due("lower(-1)", x.lower(-1), -1);
        Due.due("lower(3)", x.lower(3), -3);
        Due.due("the top", x.lower(2), 2);
        Due.due("it is down", x.lower(2), -3);
        x.hoist(3);
        Due.due("the middle and all upon it", x.lower(1), 1);
        Due.due("it was upon it", x.of(3, 7), -5);
        Due.due("the foot stands", x.told(10), 0);
        Due.due("the foot", x.lower(0), 0);
        Due.due("nothing stands", x.told(10), -1);
    }

    private static void promise8Trim() {
        MastLeft x = new MastLeft();
        Due.due("sail", x.trim(0, 9), 1);
        Due.due("stays", x.trim(1, 8), 0);
        Due.due("sail 0", x.trim(0, 0), 9);
        Due.due("stays 0", x.trim(1, 0), 8);
        Due.due("trim(2, 10)", x.trim(2, 10), -1);
        Due.due("trim(-1, 1)", x.trim(-1, 1), -1);
        Due.due("trim(0, 10)", x.trim(0, 10), -2);
        Due.due("trim(1, -1)", x.trim(1, -1), -2);
        Due.due("sail is 0", x.told(3), 0);
        Due.due("stays are 0", x.told(4), 0);
    }

    private static void promise9Feed() {
        MastLeft x = new MastLeft();
        Due.due("feed(-1)", x.feed(-1), -2);
        Due.due("feed(128)", x.feed(128), -2);
        Due.due("feed(0)", x.feed(0), 1);
        Due.due("feed(127)", x.feed(127), 2);
        for (int i = 3; i <= 100; i++) {
            Due.due("sign " + i, x.feed('a'), i);
        }
        Due.due("a 101st", x.feed('a'), -4);
        Due.due("a bad 101st", x.feed(128), -2);
        Due.due("THE TEXT has", x.count(6), 100);
    }

    private static void promise10Ocean() {
        MastLeft x = new MastLeft();
        Due.due("the first", Due.ocean(x, "wind 9"), 0);
        Due.due("THE TEXT is empty", x.count(6), 0);
        Due.due("a fault", Due.ocean(x, "wind 8;"), -17);
        Due.due("THE TEXT is empty behind a fault", x.count(6), 0);
        Due.due("the old one holds", x.told(1), 9);
        Due.due("the second", Due.ocean(x, "lash 7"), 1);
        Due.due("the new one holds: no wind", x.told(1), 5);
        Due.due("the new one holds: lash", x.told(2), 7);
        for (int i = 2; i < 6; i++) {
            Due.due("ocean " + i, Due.ocean(x, "wind " + i), i);
        }
        Due.feed(x, "wind 7;");
        Due.due("a seventh", x.ocean(), -4);
        Due.due("THE TEXT stays", x.count(6), 7);
        Due.due("the sixth holds", x.told(1), 5);
        Due.due("there are 6", x.count(1), 6);
    }

    private static void promise10Faults() {
        String ten = "wind 1;lash 2;wind 3;lash 4;wind 5;lash 6;wind 7;lash 8;wind 9;lash 10";
        String[] fine = {"wind 0", "lash 99", "wind 07", "firm 1 !!!!p=1", "firm 1 ((((p=1))))", "weak 12 !(!(p=1|k=2)&v>3)",
            "firm 1 ((p=1))&!!v<99&(!(l=0))", "firm 0 (p=1)|(p=2)|(p=3)|(p=4)|(p=5)", ten};
        for (String text : fine) {
            Due.due(text, Due.ocean(new MastLeft(), text), 0);
        }
        String[] faulty = {"", "w", "wx", "weak", "wea k", "wind 1;", "wind 123", "wind 1 2", "wind  1", " wind 1", "Wind 1",
            "firm 1", "firm 1 ", "firm 1 p=1;firm 1", "firm 1 p=123", "firm 1 p==1", "firm 1 p1", "firm 1 x=1", "firm 1 (p=1",
            "firm 1 p=1)", "firm 1 ()", "firm 1 !!!!!p=1", "firm 1 (!(!(p=1)))", "firm 1 (((((", "firm 1 p=1&", "firm 1 p=1||p=2",
            "firm 1 p=1 ", "firm x p=1", "fi", "lasso", "lash", "lash1", "wind 1,wind 2", "firm 1 (p=1))", "firm 1 !&", ten + ";",
            ten + "1", "firm 1 p=1\u0000", "\u0000"};
        int[] faults = {0, 1, 1, 4, 3, 7, 7, 6, 5, 0, 0,
            6, 7, 17, 11, 9, 8, 7, 11,
            10, 8, 11, 11, 11, 11, 11,
            10, 5, 2, 3, 4, 4, 6, 12, 8, ten.length(),
            ten.length(), 10, 0};
        for (int i = 0; i < faulty.length; i++) {
            Due.due("'" + faulty[i] + "'", Due.ocean(new MastLeft(), faulty[i]), -10 - faults[i]);
        }
        String full = "firm 99 (p<9|p<9|p<9|p<9|p<9|p<9|p<9|p<9|p<9|p<9|p<9|p<9|p<9|p<9|p<9|p<9|p<9|p<9|p<9|p<9|p<9|p<9|p<9";
        Due.due("100 bytes, too early an end", Due.ocean(new MastLeft(), full.substring(0, 100)), -110);
        MastLeft x = new MastLeft();
        Due.due("a whole text", Due.ocean(x, "wind 12;firm 1 p=12"), 0);
        Due.due("what stood behind the end is gone, a word", Due.ocean(x, "win"), -13);
        Due.due("a whole text again", Due.ocean(x, "firm 1 p=12"), 1);
        String[] early = {"firm", "firm ", "firm 1 ", "firm 1 p", "firm 1 p="};
        for (String text : early) {
            Due.due("what stood behind the end is gone: " + text, Due.ocean(x, text), -10 - text.length());
        }
    }

    /** PIECE 1 is a BOOM, v 3, LENGTH 45, WEAR 67, on DAY 12: each E, and whether it holds. */
    private static void promise10Tests() {
        String[] hold = {"p=1", "p<2", "p>0", "k=2", "v=3", "v<10", "l=4", "w=6", "d=2", "!p=2", "!!p=1", "p=1|p=2&p=3", "p=2&p=3|p=1",
            "!p=2&p=1", "(p=1|p=2)&k=2", "!(p=1&p=2)", "!(!(p=1))", "p=2|p=3|p=1", "p=1&k=2&v=3", "v<99", "p=01", "!(p=2|p=3)&v=3",
            "p=1&v<4", "p=1&v>2", "p=2|v<4", "p=2|v>2", "v<4&v>2", "v>2&v<4", "v<2|v>2", "v>4|v<4"};
        String[] fail = {"p=2", "p<1", "p>1", "k=0", "v>3", "v<3", "l=45", "l=5", "w=7", "d=1", "d>2", "!p=1", "p=2|p=3&p=1", "p=1&p=2",
            "(p=1|p=2)&k=3", "!(p=1|p=2)", "!!p=2", "!p=1|p=2", "p=1&(p=2|p=3)", "p=11", "p=2&p=1|p=3",
            "p=1&v<3", "p=1&v>3", "p=2|v<3", "p=2|v>3", "v<4&v>3", "v>2&v<3", "v<2|v>4", "p=2&v<4", "p=2&v>2"};
        for (String e : hold) {
            Due.due(e + " holds", heartBy("firm 7 " + e), 27);
            Due.due(e + " is weak", heartBy("weak 7 " + e), 13);
        }
        for (String e : fail) {
            Due.due(e + " fails", heartBy("firm 7 " + e), 20);
        }
        MastLeft x = new MastLeft();
        x.piece(0, 0, 50);
        x.set(0, 1, 60);
        Due.ocean(x, "firm 1 l=5;firm 2 w=6;firm 4 d=0");
        Due.due("the tens, cut", x.of(0, 5), 27);
        x.set(0, 0, 49);
        x.set(0, 1, 59);
        Due.due("one less", x.of(0, 5), 24);
        x.pass(10);
        Due.due("DAY 10", x.of(0, 5), 24);
        x.pass(1);
        Due.due("DAY 11", x.of(0, 5), 20);
        Due.due("all together", heartBy("firm 7 p=1;weak 3 p=1;firm 20 p=2;wind 3;firm 1 d=2"), 25);
    }

    private static int heartBy(String text) {
        MastLeft x = new MastLeft();
        x.piece(0, 0, 1);
        x.piece(2, 3, 45);
        x.set(1, 1, 67);
        x.pass(12);
        Due.due(text, Due.ocean(x, text), 0);
        return x.of(1, 5);
    }

    private static void promise11Told() {
        MastLeft x = Due.mast(10, 21);
        x.trim(0, 4);
        x.trim(1, 9);
        Due.ocean(x, "wind 3;lash 1;wind 8");
        x.pass(2);
        long[] due = {2, 8, 1, 4, 9, 24, 30, 12};
        for (int what = 0; what < due.length; what++) {
            Due.due("told(" + what + ")", x.told(what), due[what]);
        }
        Due.due("told(10)", x.told(10), 0);
        Due.due("told(11)", x.told(11), 1);
        int[] none = {-1, 8, 9, 12, 13, Integer.MIN_VALUE, Integer.MAX_VALUE};
        for (int what : none) {
            Due.due("told(" + what + ")", x.told(what), -1);
        }
    }
}
