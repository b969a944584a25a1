/** Promises 16 to 19: what is best. */
public final class BestTest {
    public static void main(String[] args) {
        promise16Spread();
        promise17Fewest();
        promise18Farthest();
        promise18Highest();
        promise18Wrong();
        promise19Longest();
        Due.end();
    }

    private static void promise16Spread() {
        Due.due("nothing stands", new MastLeft().spread(), 0);
        MastLeft x = Due.mast(50);
        Due.due("by sail 2 it breaks at once", x.spread(), 1);
        x.trim(0, 9);
        Due.due("whatever sail is now", x.spread(), 1);
        Due.due("sail stays", x.told(3), 9);
        x = Due.mast(5);
        Due.ocean(x, "weak 12 p<9");
        Due.due("by 2 and 3 as far, by 4 it breaks", x.spread(), 2);
        // Farther in 30 DAYS, though not in 29 or in 31.
        x = Due.mast(45);
        Due.ocean(x, "firm 28 p<9");
        Due.due("sail 1: 30 days of 4; sail 2: 13 of 9", x.spread(), 1);
        x = Due.mast(55);
        Due.ocean(x, "firm 34 p<9");
        Due.due("sail 1: 30 days of 5; sail 2: 14 of 11", x.spread(), 2);
        x = Due.mast(10);
        Due.ocean(x, "firm 99 p<9");
        Due.due("9 is the last", x.spread(), 9);
        x = Due.mast(40);
        Due.ocean(x, "firm 7 p<9");
        Due.due("sail 1: 15 days of 4; sail 2: 4 days of 8", x.spread(), 1);
        x = Due.mast(99);
        Due.ocean(x, "firm 99 p<9;firm 99 p<9");
        Due.due("the most by sail 4: 178 + 20", x.spread(), bestSail(99, 218, 5));
    }

    /** The same told alone: one PIECE of so many feet and such a HEART. */
    private static int bestSail(int length, int heart, int wind) {
        int best = 0, most = 0;
        for (int sail = 0; sail <= 9; sail++) {
            int load = length * sail / 5 + wind, wear = 0, went = 0;
            for (int d = 0; d < 30 && load <= heart - wear; d++) {
                went += length * sail / 10;
                wear = Math.min(99, wear + load / 10);
            }
            if (went > most) {
                most = went;
                best = sail;
            }
        }
        return best;
    }

    private static void promise17Fewest() {
        MastLeft x = Due.mast(50);
        x.trim(0, 2);
        x.trim(1, 9);
        int[] days = {1, 2, 3, 5, 6, 8, 9, 11, 12, 30};
        int[] due = {2, 2, 3, 3, 4, 4, 5, 5, 6, 6};
        for (int i = 0; i < days.length; i++) {
            Due.due("fewest(" + days[i] + ")", x.fewest(days[i]), due[i]);
        }
        Due.due("fewest(0)", x.fewest(0), -2);
        Due.due("fewest(31)", x.fewest(31), -2);
        Due.due("stays stay", x.told(4), 9);
        x = Due.mast(99);
        x.trim(0, 9);
        Due.due("none is enough", x.fewest(1), -5);
        Due.due("nothing stands", new MastLeft().fewest(30), 0);
        x = Due.mast(99);
        Due.ocean(x, "wind 22");
        x.trim(0, 1);
        Due.due("nine are enough", x.fewest(1), 7);
        Due.ocean(x, "wind 28");
        Due.due("nine are", x.fewest(1), 9);
        Due.ocean(x, "wind 29");
        Due.due("there are no ten", x.fewest(1), -5);
    }

    private static void row(String name, MastLeft x, int what, int... due) {
        for (int k = 0; k < 4; k++) {
            long got = what == 2 ? x.longest(k) : x.best(what, k);
            Due.due(name + ", " + k, got, due[k]);
        }
    }

    private static void promise18Farthest() {
        row("no pieces", new MastLeft(), 0, -5, -5, -5, -5);
        MastLeft x = Due.mast(10, 10, 10);
        x.trim(0, 0);
        row("all as far: the first row", x, 0, 0, -5, -5, 0);
        x = Due.mast(12, 12);
        row("1 mile a day by one, 2 by both", x, 0, 0, 1, -5, 20);
        x = Due.mast(10, 12);
        row("2 by both, whichever is the foot", x, 0, 0, 1, -5, 20);
        x = Due.mast(9, 10);
        row("1 by the second alone and by both; both begin earlier", x, 0, 0, 1, -5, 10);
        x = new MastLeft();
        x.piece(0, 0, 9);
        x.piece(0, 0, 20);
        x.piece(1, 0, 99);
        Due.due("what is in THE MAST now does not matter", x.hoist(2), 1);
        row("the oar is too weak as a foot", x, 0, 0, 1, -5, 20);
        Due.due("THE MAST stays", x.told(10), 2);
        x = new MastLeft();
        x.piece(0, 0, 30);
        x.piece(2, 0, 40);
        x.piece(2, 0, 40);
        row("three go 10 a day, but three days alone", x, 0, 1, 0, -5, 60);
        row("three of 32 feet hold for all 10 days", Due.mast(12, 12, 12), 0, 0, 1, 2, 30);
    }

    private static void promise18Highest() {
        row("no pieces", new MastLeft(), 1, -5, -5, -5, -5);
        MastLeft x = Due.mast(20, 20);
        row("both, as they come", x, 1, 0, 1, -5, 38);
        Due.ocean(x, "lash 20");
        row("one is as high: ahead of the longer", x, 1, 0, -5, -5, 20);
        Due.ocean(x, "wind 99");
        row("all break", x, 1, -5, -5, -5, -5);
        x = new MastLeft();
        x.piece(0, 0, 70);
        x.piece(2, 0, 40);
        x.piece(0, 0, 30);
        row("what breaks does not count", x, 1, 1, 0, -5, 108);
        row("the last as the foot, the first on top", weakTop(0), 1, 2, 1, 0, 126);
        row("of six the last three, the last as the foot", weakTop(3), 1, 5, 4, 3, 126);
        x = Due.mast(10, 20, 30);
        x.set(0, 0, 0);
        x.set(1, 0, 0);
        x.set(2, 0, 0);
        row("all of no length", x, 1, 0, -5, -5, 0);
    }

    /** Behind some of no use: a worn one that bears none, one that bears one more, and a foot that bears both. */
    private static MastLeft weakTop(int useless) {
        MastLeft x = new MastLeft();
        for (int i = 0; i < useless; i++) {
            x.piece(0, 0, 1);
        }
        x.piece(0, 0, 30);
        x.piece(0, 0, 40);
        x.piece(2, 0, 60);
        x.set(useless, 1, 5);
        return x;
    }

    private static void promise18Wrong() {
        MastLeft x = Due.mast(20, 20);
        Due.due("best(-1, 0)", x.best(-1, 0), -1);
        Due.due("best(2, 0)", x.best(2, 0), -1);
        Due.due("best(0, -1)", x.best(0, -1), -1);
        Due.due("best(1, 4)", x.best(1, 4), -1);
    }

    private static void promise19Longest() {
        row("nothing stands", new MastLeft(), 2, -5, -5, -5, -5);
        MastLeft x = new MastLeft();
        x.hoist(x.piece(0, 0, 30));
        x.hoist(x.piece(2, 0, 30));
        row("the boom below", x, 2, 1, 0, -5, 10);
        Due.due("THE MAST stays", x.told(10), 0);
        x = new MastLeft();
        for (int i = 0; i < 5; i++) {
            x.piece(0, 0, 20);
        }
        x.hoist(4);
        x.hoist(1);
        x.hoist(3);
        row("all alike: the first order, of these alone", x, 2, 1, 3, 4, 5);
        Due.ocean(x, "firm 99 p<9");
        row("it never breaks", x, 2, 1, 3, 4, -5);
        x = Due.mast(50);
        Due.ocean(x, "firm 54 p<9");
        row("on DAY 60", x, 2, 0, -5, -5, 60);
        Due.ocean(x, "firm 55 p<9");
        row("on DAY 61", x, 2, 0, -5, -5, -5);
        Due.due("longest(-1)", x.longest(-1), -1);
        Due.due("longest(4)", x.longest(4), -1);
    }
}
