/** Promises 12 to 15: days. A PIECE of 50 feet alone bears 15, wears 1 a DAY, goes 5 miles, and breaks on DAY 6. */
public final class DaysTest {
    private static final String STRONG = "firm 99 p<9;firm 99 p<9;firm 99 p<9;firm 99 p<9;firm 99 p<9;firm 99 p<9;firm 99 p<9;wind 0";

    public static void main(String[] args) {
        promise12Pass();
        promise12Breaks();
        promise12Bounds();
        promise13On();
        promise13Beyond();
        promise14First();
        promise15Port();
        Due.end();
    }

    private static void promise12Pass() {
        MastLeft x = Due.mast(50);
        Due.due("pass(-1)", x.pass(-1), -2);
        Due.due("pass(61)", x.pass(61), -2);
        Due.due("pass(0)", x.pass(0), 0);
        Due.due("no day went", x.told(0), 0);
        Due.due("pass(1)", x.pass(1), 5);
        Due.due("WEAR", x.of(0, 3), 1);
        Due.due("pass(5)", x.pass(5), 30);
        Due.due("WEAR then", x.of(0, 3), 6);
        Due.due("it stands", x.told(6), 50);
        Due.due("pass(1), it breaks", x.pass(1), 30);
        Due.due("nothing stands", x.count(2), 0);
        Due.due("LENGTH half", x.of(0, 2), 25);
        Due.due("WEAR 0", x.of(0, 3), 0);
        Due.due("BROKE 1", x.of(0, 4), 1);
        Due.due("pass(60)", x.pass(60), 30);
        Due.due("DAY", x.told(0), 67);
    }

    private static void promise12Breaks() {
        MastLeft x = Due.mast(10, 9, 31);
        x.set(1, 1, 9);
        x.set(2, 1, 20);
        x.pass(1);
        Due.due("foot stands", x.count(2), 1);
        Due.due("the first from the foot on broke", x.of(1, 4), 1);
        Due.due("half, cut", x.of(1, 2), 4);
        Due.due("what stood upon it did not break", x.of(2, 4), 0);
        Due.due("nor did it wear", x.of(2, 3), 20);
        Due.due("its length stays", x.of(2, 2), 31);
        Due.due("the foot did not wear on a day of breaking", x.of(0, 3), 0);
        Due.due("no miles", x.told(5), 0);
        x = Due.mast(50);
        x.set(0, 1, 5);
        x.pass(1);
        Due.due("as much as it can bear does not break it", x.of(0, 4), 0);
        x = Due.mast(99);
        Due.ocean(x, "firm 99 p<9;wind 99");
        x.set(0, 1, 1);
        x.pass(1);
        Due.due("WEAR is the tenth of LOAD more, cut", x.of(0, 3), 12);
    }

    private static void promise12Bounds() {
        MastLeft x = Due.mast(99, 99, 99);
        Due.ocean(x, STRONG);
        x.trim(0, 9);
        Due.due("263 miles a day", x.pass(60), 60 * 263);
        Due.due("WEAR is 99 at most", x.of(0, 3), 99);
        for (int i = 2; i <= 6; i++) {
            Due.due("pass " + i, x.pass(60), i * 60 * 263);
        }
        Due.due("WENT is 99999 at most", x.pass(60), 99999);
        for (int i = 8; i <= 166; i++) {
            x.pass(60);
        }
        Due.due("DAY", x.told(0), 9960);
        Due.due("DAY would be 10000", x.pass(40), -3);
        Due.due("BAD comes first", x.pass(61), -2);
        Due.due("DAY then 9999", x.pass(39), 99999);
        Due.due("DAY", x.told(0), 9999);
        Due.due("one more", x.pass(1), -3);
        Due.due("none more", x.pass(0), 99999);
        Due.due("ON goes beyond 99999", x.on(60, 0), 60 * 263);
        Due.due("PORT too", x.port(264), 2);
        Due.due("FIRST too", x.first(0), -5);
        Due.due("it changed nothing", x.told(0) + x.told(5), 9999 + 99999);
    }

    private static void promise13On() {
        MastLeft x = Due.mast(50);
        x.piece(0, 0, 7);
        x.set(1, 1, 3);
        long[] went = {0, 5, 10, 15, 20, 25, 30, 30};
        for (int n = 0; n < went.length; n++) {
            Due.due("on(" + n + ", 0)", x.on(n, 0), went[n]);
            Due.due("on(" + n + ", 1)", x.on(n, 1), n < 7 ? 50 : 0);
            Due.due("on(" + n + ", 2)", x.on(n, 2), n < 7 ? 1 : 0);
            Due.due("on(" + n + ", 10)", x.on(n, 10), n < 7 ? 50 : 25);
            Due.due("on(" + n + ", 20)", x.on(n, 20), n < 7 ? n : 0);
            Due.due("on(" + n + ", 11)", x.on(n, 11), 7);
            Due.due("on(" + n + ", 21)", x.on(n, 21), 3);
        }
        Due.due("on(60, 0)", x.on(60, 0), 30);
        int[] none = {-1, 3, 9, 12, 15, 16, 19, 22, 26, Integer.MAX_VALUE, Integer.MIN_VALUE};
        for (int what : none) {
            Due.due("on(61, " + what + ")", x.on(61, what), -1);
        }
        Due.due("on(61, 0)", x.on(61, 0), -2);
        Due.due("on(-1, 21)", x.on(-1, 21), -2);
        Due.due("it changed nothing", x.told(0) + x.told(5) + x.of(0, 3) + x.of(0, 4), 0);
        Due.due("it stands", x.count(2), 1);
    }

    private static void promise13Beyond() {
        MastLeft x = Due.mast(50);
        x.pass(3);
        Due.due("WENT more, not WENT", x.on(3, 0), 15);
        Due.ocean(x, "weak 9 d=5");
        Due.due("on DAY 5 it is weak", x.on(3, 2), 0);
        Due.due("on DAY 4 it is not", x.on(2, 2), 1);
    }

    private static void promise14First() {
        MastLeft x = Due.mast(50);
        Due.due("first(0)", x.first(0), 6);
        Due.due("first(1)", x.first(1), 0);
        x.pass(6);
        Due.due("the next one is 0", x.first(0), 0);
        Due.due("first(-1)", x.first(-1), -1);
        Due.due("first(2)", x.first(2), -1);
        x = Due.mast(50);
        Due.ocean(x, "firm 54 p<9");
        Due.due("60 is the last", x.first(0), 60);
        Due.due("60: which", x.first(1), 0);
        Due.ocean(x, "firm 55 p<9");
        Due.due("61 is none", x.first(0), -5);
        Due.due("61: which", x.first(1), -5);
        x = new MastLeft();
        x.piece(0, 0, 10);
        x.hoist(x.piece(3, 5, 50));
        Due.due("a POLE of v 5", x.first(0), 11);
        x.lower(1);
        x.hoist(x.piece(6, 0, 50));
        Due.due("a TOLD one of no ROW", x.first(0), 6);
        x.row(2, 2, 9);
        Due.due("of a ROW for DAY 2 and 6", x.first(0), 7);
        x.row(2, 3, 9);
        x.row(2, 0, 9);
        Due.due("of a ROW for all but 1", x.first(0), 9);
        x = new MastLeft();
        x.piece(0, 0, 10);
        x.hoist(x.piece(2, 0, 50));
        x.hoist(0);
        x.set(0, 1, 14);
        Due.due("which is the PIECE, not its place", x.first(1), 0);
    }

    private static void promise15Port() {
        MastLeft x = Due.mast(50);
        Due.due("port(-1)", x.port(-1), -2);
        Due.due("port(10000)", x.port(10000), -2);
        Due.due("port(9999)", x.port(9999), -5);
        Due.due("port(0)", x.port(0), 0);
        Due.due("port(1)", x.port(1), 1);
        Due.due("port(5)", x.port(5), 1);
        Due.due("port(6)", x.port(6), 2);
        Due.due("port(30)", x.port(30), 6);
        Due.due("port(31)", x.port(31), -5);
        Due.ocean(x, "firm 99 p<9");
        Due.due("port(495)", x.port(495), 99);
        Due.due("port(496)", x.port(496), -5);
        x.pass(1);
        Due.due("from how all is", x.port(5), 1);
        Due.due("it changed nothing", x.told(5), 5);
    }
}
