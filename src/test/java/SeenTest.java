/** Promises 20 to 24: what is seen, odds. A PIECE of 50 feet and WEAR w breaks on DAY 6 - w, a POLE of v on 6 + v. */
public final class SeenTest {
    private static final long NO = Long.MIN_VALUE;

    public static void main(String[] args) {
        promise20See();
        promise21Worn();
        promise22Can();
        promise23Odds();
        promise24Mean();
        Due.end();
    }

    private static void promise20See() {
        MastLeft x = new MastLeft();
        Due.due("many -2", x.see(-2, 0), -2);
        Due.due("many 4", x.see(4, 0), -2);
        Due.due("n -1", x.see(0, -1), -2);
        Due.due("n 21", x.see(0, 21), -2);
        Due.due("the first", x.see(0, 0), 1);
        Due.due("the second", x.see(3, 20), 2);
        Due.due("none then", x.see(-1, 99), 0);
        Due.due("count(3)", x.count(3), 0);
        for (int i = 1; i <= 5; i++) {
            Due.due("see " + i, x.see(1, i), i);
        }
        Due.due("a sixth", x.see(1, 1), -4);
        Due.due("a bad sixth", x.see(1, 21), -2);
        Due.due("count(3)", x.count(3), 5);
    }

    private static void worn(String name, MastLeft x, int piece, int many, int least) {
        Due.due(name + ": how many", x.worn(piece, 0), many);
        Due.due(name + ": the least", x.worn(piece, 1), least);
    }

    private static void promise21Worn() {
        MastLeft x = Due.mast(50);
        x.piece(0, 0, 10);
        x.set(0, 1, 30);
        worn("nothing seen", x, 0, 61, 0);
        x.see(1, 6);
        worn("it stands behind 6 days", x, 0, 1, 0);
        x.see(-1, 0);
        x.see(1, 3);
        worn("it stands behind 3", x, 0, 4, 0);
        x.see(0, 5);
        worn("and not behind 5", x, 0, 2, 2);
        worn("another one's wear is nothing to it", x, 1, 0, -5);
        x.set(0, 1, 2);
        worn("as it is that worn", x, 1, 61, 0);
        x.see(0, 1);
        worn("never both", x, 0, 0, -5);
        x.see(-1, 0);
        x.see(0, 1);
        worn("worn by 6 to 60", x, 0, 55, 6);
        x.see(-1, 0);
        x.see(1, 0);
        worn("it stands now", x, 0, 61, 0);
        Due.due("worn(2, 0)", x.worn(2, 0), -1);
        Due.due("worn(-1, 0)", x.worn(-1, 0), -1);
        Due.due("worn(0, 2)", x.worn(0, 2), -1);
        Due.due("worn(0, -1)", x.worn(0, -1), -1);
        Due.due("it changed nothing", x.of(0, 3), 2);
        x.see(1, 2);
        x.pass(1);
        worn("seen counts from now, when asked", x, 0, 5, 0);
    }

    private static void can(String name, MastLeft x, int piece, int many, int least) {
        Due.due(name + ": how many", x.can(piece, 0), many);
        Due.due(name + ": the least", x.can(piece, 1), least);
    }

    private static void promise22Can() {
        MastLeft x = new MastLeft();
        x.hoist(x.piece(3, 5, 50));
        x.piece(0, 1, 10);
        can("nothing seen", x, 0, 10, 0);
        x.see(1, 8);
        can("it stands behind 8 days", x, 0, 8, 2);
        x.see(0, 11);
        can("and not behind 11", x, 0, 3, 2);
        can("another one's v is nothing to it", x, 1, 0, -5);
        x.see(0, 0);
        can("never all", x, 0, 0, -5);
        x.see(-1, 0);
        x.see(1, 15);
        can("only nine", x, 0, 1, 9);
        x.see(0, 20);
        can("and down behind 20", x, 0, 1, 9);
        Due.due("can(2, 0)", x.can(2, 0), -1);
        Due.due("can(-1, 0)", x.can(-1, 0), -1);
        Due.due("can(0, 2)", x.can(0, 2), -1);
        Due.due("can(0, -1)", x.can(0, -1), -1);
        Due.due("it changed nothing", x.of(0, 1), 5);
    }

    private static void odds(MastLeft x, int n, long above, long below) {
        Due.due("odds(" + n + ", 0)", x.odds(n, 0), above);
        Due.due("odds(" + n + ", 1)", x.odds(n, 1), below);
    }

    private static void promise23Odds() {
        MastLeft x = new MastLeft();
        x.piece(0, 0, 10);
        odds(x, 5, NO, NO);
        x = Due.mast(50, 10, 10);
        odds(x, 0, 1, 1);
        odds(x, 5, 1, 1);
        odds(x, 6, 2, 3);
        odds(x, 7, 1, 3);
        odds(x, 60, 1, 3);
        odds(x, 61, NO, NO);
        odds(x, -1, NO, NO);
        Due.due("odds(1, 2)", x.odds(1, 2), NO);
        Due.due("odds(1, -1)", x.odds(1, -1), NO);
        Due.due("it changed nothing", x.count(2) * 100 + x.of(0, 2), 350);
        x = Due.mast(50, 50);
        odds(x, 6, 1, 1);
        odds(x, 7, 1, 2);
    }

    private static void mean(String name, MastLeft x, long above, long below) {
        Due.due(name + ", above", x.mean(0), above);
        Due.due(name + ", below", x.mean(1), below);
    }

    private static void promise24Mean() {
        mean("nothing stands", new MastLeft(), NO, NO);
        MastLeft x = Due.mast(50, 10);
        mean("16 and 7", x, 23, 2);
        x = Due.mast(50, 5);
        mean("15 and 6", x, 21, 2);
        x = Due.mast(50, 7);
        mean("16 and 6", x, 11, 1);
        x = Due.mast(10, 10, 10);
        mean("10, 8 and 7", x, 25, 3);
        x.set(2, 0, 19);
        mean("12, 10 and 8", x, 10, 1);
        x.trim(1, 9);
        mean("none bears anything", x, 0, 1);
        Due.due("mean(2)", x.mean(2), NO);
        Due.due("mean(-1)", x.mean(-1), NO);
    }
}
