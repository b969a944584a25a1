import java.util.function.Consumer;

/** ==== 2 of the document's Terms, all but the ACTS and THE IMAGE: what is asked. */
final class TermsTwo {
    private static final int[] NO_ROW = {-5, -5, -5, -5};

    private TermsTwo() {
    }

    static void all() {
        Doc.terms("==== 2");
        asked();
        on();
        first();
        port();
        spread();
        fewest();
        farthest();
        highest();
        longest();
        seen();
        worn();
        can();
        odds();
        mean();
        plan();
        book();
    }

    private static void asked() {
        Doc.says("All that follows is asked, goes on from how all is (DAYS, BROKE beyond 9999, WENT beyond 99999, too), and changes nothing.", () -> {
            MastLeft x = Probe.late();
            Due.due("DAY", x.told(0), 9999);
            Due.due("WENT", x.told(5), 99999);
            Due.due("WENT more, beyond", x.on(60, 0), 60 * 117);
            Due.due("PORT beyond", x.port(118), 2);
            Due.due("PORT far beyond", x.port(9999), 86);
            x.plan(0, 0);
            Due.due("ENDS beyond", x.ends(0), 117);
            Due.due("FARTHEST beyond", x.best(0, 3), 1170);
            MastLeft day = atDay9999(0);
            Due.due("an OCEAN", Due.ocean(day, "weak 99 d=1"), 0);
            Due.due("DAY 10001 is 1 modulo 10", day.first(0), 2);
            MastLeft row = atDay9999(6);
            row.set(0, 1, 10);
            row.row(0, 3, 9);
            row.row(0, 0, 9);
            Due.due("DAY 10001 is 1 modulo 4", row.first(0), 2);
            fromHowAllIs();
            Asks.all("some", Probe::some);
            Asks.all("full", Probe::full);
            Asks.all("late", Probe::late);
            Asks.all("bare", Probe::bare);
        });
    }

    /** FIRST of a PIECE of 50 feet, which is 6, behind what is done to it. */
    private static void firstThen(String name, int kind, int v, long due, Consumer<MastLeft> done) {
        MastLeft x = Due.one(kind, v, 50, 0);
        x.hoist(0);
        done.accept(x);
        Due.due("from " + name, x.first(0), due);
    }

    private static void fromHowAllIs() {
        firstThen("a new PIECE", 0, 3, 6, x -> x.trim(0, 1));
        firstThen("its KIND", 2, 3, 16, x -> x.trim(0, 1));
        firstThen("its v", 3, 5, 11, x -> x.trim(0, 1));
        firstThen("its LENGTH", 0, 3, 8, x -> x.set(0, 0, 40));
        firstThen("its WEAR", 0, 3, 3, x -> x.set(0, 1, 3));
        firstThen("SAIL", 0, 3, 0, x -> x.trim(0, 2));
        firstThen("STAYS", 0, 3, 9, x -> x.trim(1, 1));
        firstThen("the OCEAN that holds", 0, 3, 5, x -> Due.ocean(x, "wind 6"));
        firstThen("THE MAST", 0, 3, 1, x -> x.hoist(x.piece(0, 0, 27)));
        firstThen("DAYS that went", 0, 3, 4, x -> x.pass(2));
        MastLeft went = Due.mast(50);
        went.pass(4);
        Due.due("from the miles that went", went.on(2, 0), 10);
        for (int p = 0; p < 6; p++) {
            MastLeft row = new MastLeft();
            for (int i = 0; i <= p; i++) {
                row.piece(i == p ? 6 : 0, 0, 50);
            }
            row.hoist(p);
            row.set(p, 1, 5);
            row.row(p, 1, 1);
            row.row(p, 2, 2);
            Due.due("from the ROW of PIECE " + p, row.first(0), 3);
            row.row(p, 3, 9);
            Due.due("from the ROW of PIECE " + p, row.first(0), 4);
        }
    }

    /** One PIECE of a KIND, 50 feet, that is put up on DAY 9999. */
    private static MastLeft atDay9999(int kind) {
        MastLeft x = Due.one(kind, 0, 50, 0);
        for (int i = 0; i < 166; i++) {
            x.pass(60);
        }
        x.pass(39);
        x.hoist(0);
        return x;
    }

    private static void on() {
        Doc.says("ON n DAYS (0 .. 60): WENT more; HEIGHT; how many are in THE MAST; LENGTH, WEAR of one.", () -> {
            MastLeft x = Due.mastIn("firm 53 p=0;weak 10 p=1", 50);
            x.hoist(x.piece(0, 0, 2));
            x.set(1, 1, 4);
            x.pass(1);
            long[][] due = {{0, 50, 2, 50, 1, 2, 4}, {5, 50, 2, 50, 2, 2, 4}, {290, 50, 2, 50, 59, 2, 4}, {290, 0, 0, 25, 0, 2, 4}};
            int[] days = {0, 1, 58, 59};
            int[] what = {0, 1, 2, 10, 20, 11, 21};
            for (int i = 0; i < days.length; i++) {
                for (int k = 0; k < what.length; k++) {
                    Due.due("on(" + days[i] + ", " + what[k] + ")", x.on(days[i], what[k]), due[i][k]);
                }
            }
            Due.due("on(60, 0)", Due.mastIn("firm 99 p<9", 50).on(60, 0), 300);
            Due.due("on(60, 20)", Due.mastIn("firm 99 p<9", 50).on(60, 20), 60);
            Probe.bounds("on, n", Probe::some, n -> y -> y.on(n, 1), 0, 60, -2);
        });
    }

    private static void first() {
        Doc.says("FIRST: the number (0 is the next one; 0 .. 60) of the first DAY from now on on which something BREAKS; which (-5 each: none).", () -> {
            String[] oceans = {"weak 6 p<9", "weak 5 p<9", "wind 5", "firm 53 p<9", "firm 54 p<9", "firm 55 p<9", "firm 99 p<9"};
            long[] due = {0, 1, 6, 59, 60, -5, -5};
            for (int i = 0; i < due.length; i++) {
                MastLeft x = Due.mastIn(oceans[i], 50);
                Due.due("FIRST by " + oceans[i], x.first(0), due[i]);
                Due.due("which by " + oceans[i], x.first(1), due[i] < 0 ? -5 : 0);
            }
            MastLeft top = Due.mast(10, 10, 10);
            top.set(2, 1, 14);
            Due.due("the top: FIRST", top.first(0), 0);
            Due.due("the top: which", top.first(1), 2);
            MastLeft order = new MastLeft();
            order.piece(0, 0, 10);
            order.hoist(order.piece(2, 0, 10));
            order.hoist(0);
            order.set(0, 1, 14);
            Due.due("which is the PIECE's number, not its place", order.first(1), 0);
            Due.due("nothing stands", new MastLeft().first(0), -5);
            Due.due("nothing stands: which", new MastLeft().first(1), -5);
        });
    }

    private static void port() {
        Doc.says("PORT of m (0 .. 9999): the fewest DAYS (0 .. 99) behind which WENT is m or more more (-5: not by then).", () -> {
            MastLeft x = Due.mastIn("firm 99 p<9", 50);
            x.pass(1);
            int[] miles = {0, 1, 5, 6, 10, 11, 490, 491, 495, 496, 9999};
            long[] due = {0, 1, 1, 2, 2, 3, 98, 99, 99, -5, -5};
            for (int i = 0; i < due.length; i++) {
                Due.due("port(" + miles[i] + ")", x.port(miles[i]), due[i]);
            }
            MastLeft y = Due.mast(50);
            Due.due("30 miles, and then it breaks", y.port(30), 6);
            Due.due("31 miles", y.port(31), -5);
            Due.due("none, and nothing stands", new MastLeft().port(0), 0);
            Due.due("one, and nothing stands", new MastLeft().port(1), -5);
            Probe.beyond("port, m", Probe::some, m -> z -> z.port(m), 0, 9999, -2);
        });
    }

    private static void spread() {
        Doc.says("SPREAD: the SAIL (0 .. 9) by which, were it that now, WENT more in 30 DAYS is most (of several the least).", () -> {
            Due.due("nothing stands: 0 by all", new MastLeft().spread(), 0);
            Due.due("all too short: 0 by all", Due.mast(1).spread(), 0);
            Due.due("0: by 1 it breaks", Due.mastIn("weak 15 p<9", 10).spread(), 0);
            Due.due("1: 30 DAYS of 4; 2: 13 of 9, more than 29 of 4", Due.mastIn("firm 28 p<9", 45).spread(), 1);
            Due.due("1: 30 DAYS of 5; 2: 14 of 11, less than 31 of 5", Due.mastIn("firm 34 p<9", 55).spread(), 2);
            Due.due("by 2 and 3 as far, by 4 it breaks", Due.mastIn("weak 12 p<9", 5).spread(), 2);
            Due.due("9", Due.mastIn("firm 99 p<9", 10).spread(), 9);
            MastLeft x = Due.mastIn("firm 99 p<9", 10);
            x.trim(0, 0);
            Due.due("whatever SAIL is now", x.spread(), 9);
            x.pass(1);
            Due.due("and whatever WENT", x.spread(), 9);
        });
    }

    private static void fewest() {
        Doc.says("FEWEST of n DAYS (1 .. 30): the least number (0 .. 9) by which, were it STAYS now, nothing BREAKS in these (-5: none).", () -> {
            Due.due("30 DAYS, 0", Due.mastIn("firm 24 p<9", 50).fewest(30), 0);
            Due.due("30 DAYS, 1", Due.mastIn("firm 23 p<9", 50).fewest(30), 1);
            Due.due("29 DAYS, 0", Due.mastIn("firm 23 p<9", 50).fewest(29), 0);
            Due.due("1 DAY, 0", Due.mastIn("weak 5 p<9", 50).fewest(1), 0);
            Due.due("2 DAYS, 1", Due.mastIn("weak 5 p<9", 50).fewest(2), 1);
            Due.due("1 DAY, 1", Due.mastIn("weak 6 p<9", 50).fewest(1), 1);
            Due.due("9", Due.mastIn("wind 28", 99).fewest(1), 9);
            Due.due("ten would be", Due.mastIn("wind 29", 99).fewest(1), -5);
            Due.due("nothing stands", new MastLeft().fewest(30), 0);
            MastLeft x = Due.mastIn("weak 6 p<9", 50);
            x.trim(1, 9);
            Due.due("whatever STAYS are now", x.fewest(1), 1);
            Probe.bounds("fewest, n", Probe::some, n -> y -> y.fewest(n), 1, 30, -2);
        });
    }

    static void row(String name, MastLeft x, int what, int... due) {
        for (int k = 0; k < 4; k++) {
            Due.due(name + ", " + k, what == 2 ? x.longest(k) : x.best(what, k), due[k]);
        }
    }

    private static MastLeft lying(String ocean, int... lengths) {
        MastLeft x = new MastLeft();
        for (int length : lengths) {
            x.piece(0, 0, length);
        }
        Due.due(ocean, Due.ocean(x, ocean), 0);
        return x;
    }

    // ---- every row of six PIECES of 40 feet by SAIL 5, which is once the best: 120, 80, 40 are borne from the foot on

    /** Each row of PIECES there is, one by one. */
    private static void everyRow(Consumer<int[]> test) {
        int rows = 0;
        for (int a = 0; a < 6; a++) {
            test.accept(new int[] {a});
            for (int b = 0; b < 6; b++) {
                if (b == a) {
                    continue;
                }
                test.accept(new int[] {a, b});
                for (int c = 0; c < 6; c++) {
                    if (c != a && c != b) {
                        test.accept(new int[] {a, b, c});
                        rows++;
                    }
                }
                rows++;
            }
            rows++;
        }
        Due.due("rows", rows, 6 + 30 + 120);
    }

    private static MastLeft forty(String firm) {
        MastLeft x = lying("wind 0;lash 0" + firm, 40, 40, 40, 40, 40, 40);
        x.trim(0, 5);
        return x;
    }

    /** The PIECES of the row bear what is upon them for ten DAYS, and no others do. */
    private static MastLeft bearsForTen(int[] pieces) {
        String[] firms = {";firm 57 p=%d", ";firm 99 p=%d;firm 34 p=%<d", ";firm 99 p=%d;firm 99 p=%<d;firm 11 p=%<d"};
        StringBuilder firm = new StringBuilder();
        for (int i = 0; i < pieces.length; i++) {
            firm.append(String.format(firms[pieces.length - 1 - i], pieces[i]));
        }
        return forty(firm.toString());
    }

    private static void theRow(String name, MastLeft x, int what, int[] pieces, int much) {
        row(name + java.util.Arrays.toString(pieces), x, what, pieces[0], pieces.length > 1 ? pieces[1] : -5, pieces.length > 2 ? pieces[2] : -5, much);
    }

    private static void farthestRow(int[] pieces) {
        theRow("FARTHEST ", bearsForTen(pieces), 0, pieces, 200 * pieces.length);
    }

    private static void longestRow(int[] pieces) {
        MastLeft x = bearsForTen(pieces);
        for (int i = 1; i <= pieces.length; i++) {
            x.hoist(pieces[i % pieces.length]);
        }
        theRow("LONGEST ", x, 2, pieces, 10);
        x.lower(pieces[1 % pieces.length]);
        for (int i = pieces.length - 1; i >= 0; i--) {
            x.hoist(pieces[i]);
        }
        theRow("LONGEST ", x, 2, pieces, 10);
    }

    private static void highestRow(int[] pieces) {
        String[] firms = {";firm 20 p=%d", ";firm 60 p=%d", ";firm 99 p=%d;firm 1 p=%<d"};
        StringBuilder firm = new StringBuilder();
        for (int i = 0; i < pieces.length; i++) {
            firm.append(String.format(firms[pieces.length - 1 - i], pieces[i]));
        }
        theRow("HIGHEST ", forty(firm.toString()), 1, pieces, 40 * pieces.length);
    }

    private static void farthest() {
        Doc.says("FARTHEST: of all rows of 1 .. 3 PIECES, none twice, that by which, were it THE MAST now, WENT more in 10 DAYS is most", () -> {
            row("60 in 10 DAYS, 66 in 11", lying("lash 99;firm 2 p=0;firm 9 p=1", 60, 30), 0, 0, -5, -5, 36);
            row("5 DAYS of 6, 10 of 3, 11 of 3", lying("lash 99;firm 1 p=0;firm 9 p=1", 60, 30), 0, 0, -5, -5, 30);
            row("5 DAYS of 6, 10 of 4", lying("lash 99;firm 1 p=0;firm 9 p=1", 60, 40), 0, 1, -5, -5, 40);
            row("7 DAYS of 6, 10 of 4, 11 of 4", lying("lash 99;firm 3 p=0;firm 9 p=1", 60, 40), 0, 0, -5, -5, 42);
            row("one", lying("wind 5", 10), 0, 0, -5, -5, 10);
            row("two", lying("wind 5", 12, 12), 0, 0, 1, -5, 20);
            row("three", lying("wind 5", 12, 12, 12), 0, 0, 1, 2, 30);
            row("three of four, and no fourth", lying("wind 5", 12, 12, 12, 12), 0, 0, 1, 2, 30);
            everyRow(TermsTwo::farthestRow);
            row("no PIECE", new MastLeft(), 0, NO_ROW);
            MastLeft x = Due.mastIn("lash 99", 9, 10, 9);
            x.pass(1);
            row("whatever stands now, and whatever WENT", x, 0, 1, -5, -5, 10);
        });
        Doc.says("(of several the first as a row, a row ahead of a longer one that begins so):", () -> {
            row("all alike", lying("lash 99", 10, 10, 10, 10, 10, 10), 0, 0, -5, -5, 10);
            row("none goes", lying("lash 99", 1, 1, 1, 1, 1, 1), 0, 0, -5, -5, 0);
            row("by 0 and by 0 1 alike", lying("lash 10", 20, 10), 0, 0, -5, -5, 20);
            row("by 1 and by 0 1 and by 1 0 alike", lying("wind 5", 9, 10), 0, 0, 1, -5, 10);
            row("by 0 1 2 and by 1 2 alike", lying("lash 5", 5, 21, 14), 0, 0, 1, 2, 30);
            row("by 1 alone", lying("lash 99", 9, 19, 19), 0, 1, -5, -5, 10);
        });
        Doc.says("the k-th PIECE; how much.", () -> {
            row("2 0 1 alone holds for 10 DAYS", lying("firm 22 p=2;firm 5 p=0;wind 0;lash 0", 40, 40, 40), 0, 2, 0, 1, 120);
            row("there are fewer", lying("wind 5", 12, 12), 0, 0, 1, -5, 20);
        });
    }

    private static void highest() {
        Doc.says("HIGHEST: of all such rows that with the greatest HEIGHT, nothing of which BREAKS on the next DAY (of several the first likewise): "
            + "the k-th; HEIGHT.", () -> {
            everyRow(TermsTwo::highestRow);
            row("no PIECE", new MastLeft(), 1, NO_ROW);
            row("20 bear 20, though not on the DAY behind the next", lying("lash 99", 75), 1, 0, -5, -5, 75);
            row("20 do not bear 21", lying("lash 99", 80), 1, NO_ROW);
            row("what breaks does not count", lying("lash 99", 80, 75), 1, 1, -5, -5, 75);
            row("weak on the next DAY", lying("weak 99 d=0", 10), 1, NO_ROW);
            row("weak on the DAY behind it", lying("weak 99 d=1", 10), 1, 0, -5, -5, 10);
            row("alike", lying("lash 99", 10, 10, 10), 1, 0, -5, -5, 10);
            row("0 and 0 1 alike", lying("lash 10", 20, 10), 1, 0, -5, -5, 20);
            row("0 1 2, three at most", lying("lash 0", 10, 10, 10, 10), 1, 0, 1, 2, 30);
            row("there are two: no third upon them takes LASH away", lying("lash 25", 60, 60), 1, 0, -5, -5, 60);
            row("there is one: no second upon it takes LASH away", lying("lash 25", 90), 1, NO_ROW);
            row("of no LENGTH", lying("lash 99", 1, 1), 1, 0, -5, -5, 1);
            MastLeft x = lying("firm 22 p=2;firm 3 p=0;weak 5 p=1;wind 0;lash 0", 40, 40, 40);
            row("2 0 1 alone holds", x, 1, 2, 0, 1, 120);
            x.trim(0, 5);
            row("by SAIL 5 none of three holds, nor of two", x, 1, 2, -5, -5, 40);
            MastLeft none = lying("wind 5", 10);
            none.set(0, 0, 0);
            row("HEIGHT 0 counts", none, 1, 0, -5, -5, 0);
        });
    }

    private static void longest() {
        Doc.says("LONGEST: of all orders of the PIECES in THE MAST that by which FIRST is latest (none: later than any; "
            + "of several the first as a row of numbers): the k-th; FIRST then (-5: none).", () -> {
            everyRow(TermsTwo::longestRow);
            row("nothing stands", lying("wind 5", 10, 10), 2, NO_ROW);
            row("one", Due.mast(50), 2, 0, -5, -5, 6);
            row("60 of 0 1, none of 1 0", Due.mastIn("lash 50;firm 56 p=1", 10, 60), 2, 1, 0, -5, -5);
            row("none of 0 1, none of 1 0", Due.mastIn("lash 50;firm 57 p=1", 10, 60), 2, 0, 1, -5, -5);
            row("10 of 1 0", Due.mastIn("firm 10 p=1", 30, 30), 2, 1, 0, -5, 10);
            row("0 of all", Due.mastIn("wind 30", 10, 10, 10), 2, 0, 1, 2, 0);
            row("60", Due.mastIn("firm 54 p<9", 50), 2, 0, -5, -5, 60);
            row("61", Due.mastIn("firm 55 p<9", 50), 2, 0, -5, -5, -5);
            MastLeft x = lying("wind 5", 20, 20, 20, 20, 20, 20);
            x.hoist(5);
            x.hoist(1);
            x.hoist(3);
            row("those in THE MAST alone, the first order", x, 2, 1, 3, 5, 5);
            x.lower(1);
            row("one of them", x, 2, 5, -5, -5, -5);
        });
    }

    private static void seen() {
        Doc.says("SEEN told by hand: how many are in THE MAST (0 .. 3) behind n DAYS (0 .. 20) from now (5 at most).", () -> {
            Probe.bounds("see, n", Probe::bare, n -> x -> x.see(0, n), 0, 20, -2);
            Due.each("many", -2, many -> Probe.bare().see(many, 0), -2, 0, 1, 1, 1, 1, -2);
            Probe.keeps("many 4", Probe::bare, x -> x.see(4, 0), -2);
            Probe.keeps("many -2", Probe::bare, x -> x.see(-2, 0), -2);
            Probe.keeps("a sixth", Probe::full, x -> x.see(1, 0), -4);
            for (int stand = 0; stand <= 3; stand++) {
                for (int many = 0; many <= 3; many++) {
                    MastLeft x = stand == 0 ? Probe.bare() : Due.mast(new int[] {10, 10, 10}, stand);
                    if (stand == 0) {
                        x.piece(0, 0, 10);
                    }
                    x.see(many, 0);
                    Due.due(stand + " stand behind 0 DAYS, told " + many, x.can(0, 0), many == stand ? 10 : 0);
                }
            }
            MastLeft last = Due.mastIn("firm 14 p<9", 50);
            last.see(1, 20);
            Due.due("it stands behind 20 DAYS", last.worn(0, 0), 1);
            last.see(0, 20);
            Due.due("not both", last.worn(0, 0), 0);
            MastLeft ends = Due.mastIn("firm 13 p<9", 50);
            ends.see(1, 20);
            Due.due("it does not stand behind 20 DAYS", ends.worn(0, 0), 0);
            MastLeft later = Due.mast(50);
            later.see(1, 4);
            Due.due("behind 4 DAYS from DAY 0", later.worn(0, 0), 3);
            later.pass(2);
            Due.due("behind 4 DAYS from DAY 2", later.worn(0, 0), 3);
        });
    }

    private static void fits(String name, long many, long least, long dueMany, long dueLeast) {
        Due.due(name + ": how many", many, dueMany);
        Due.due(name + ": the least", least, dueLeast);
    }

    private static void worn(String name, MastLeft x, int piece, long many, long least) {
        fits(name, x.worn(piece, 0), x.worn(piece, 1), many, least);
    }

    private static void can(String name, MastLeft x, int piece, long many, long least) {
        fits(name, x.can(piece, 0), x.can(piece, 1), many, least);
    }

    private static MastLeft seeing(MastLeft x, int many, int n) {
        x.see(many, n);
        return x;
    }

    private static void worn() {
        Doc.says("WORN of one: how many numbers (0 .. 60) there are by which, were that its WEAR now, all of SEEN is so; the least (-5: none).", () -> {
            worn("nothing is SEEN", Due.mast(50), 0, 61, 0);
            worn("0 alone", seeing(Due.mastIn("weak 5 p<9", 50), 1, 1), 0, 1, 0);
            worn("none", seeing(Due.mastIn("weak 6 p<9", 50), 1, 1), 0, 0, -5);
            worn("60 alone", seeing(Due.mastIn("firm 54 p<9", 50), 0, 1), 0, 1, 60);
            worn("61 would be", seeing(Due.mastIn("firm 55 p<9", 50), 0, 1), 0, 0, -5);
            worn("all but 60", seeing(Due.mastIn("firm 54 p<9", 50), 1, 1), 0, 60, 0);
            worn("10 to 19", seeing(Due.mastIn("firm 99 p<9;weak 99 w=1;weak 9 w=1", 50), 0, 1), 0, 10, 10);
            MastLeft x = seeing(seeing(Due.mast(50), 1, 3), 0, 5);
            worn("2 and 3", x, 0, 2, 2);
            x.set(0, 1, 60);
            worn("whatever its WEAR is now", x, 0, 2, 2);
            worn("never both", seeing(x, 1, 5), 0, 0, -5);
            MastLeft other = Due.mast(50);
            other.piece(0, 0, 10);
            worn("one that does not stand", seeing(other, 1, 6), 1, 61, 0);
            worn("not at all", seeing(other, 0, 6), 1, 0, -5);
        });
    }

    private static void can() {
        Doc.says("CAN of one: how many numbers v (0 .. 9) there are by which, were that its v now, likewise; the least (-5: none).", () -> {
            for (int wear = 4; wear <= 17; wear++) {
                MastLeft x = Due.one(3, 4, 50, wear);
                x.hoist(0);
                int least = Math.max(0, wear - 5);
                can("15 is borne by v " + least + " and more", seeing(x, 1, 1), 0, Math.max(0, 10 - least), least > 9 ? -5 : least);
            }
            can("nothing is SEEN", Due.mast(50), 0, 10, 0);
            can("0 to 4", seeing(Due.mastIn("weak 99 v>4", 50), 1, 1), 0, 5, 0);
            can("5 to 9", seeing(Due.mastIn("weak 99 v>4", 50), 0, 1), 0, 5, 5);
            can("9 alone", seeing(Due.mastIn("weak 99 v=9", 50), 0, 1), 0, 1, 9);
            can("all but 0", seeing(Due.mastIn("weak 99 v=0", 50), 1, 1), 0, 9, 1);
            can("none", seeing(Due.mast(50), 0, 1), 0, 0, -5);
        });
    }

    private static void odds(String name, MastLeft x, int n, long above, long below) {
        Due.due(name + ", above", x.odds(n, 0), above);
        Due.due(name + ", below", x.odds(n, 1), below);
    }

    private static void odds() {
        Doc.says("ODDS of n DAYS (0 .. 60): if one PIECE in THE MAST, each alike likely, is lost now, with all upon it (LENGTHS stay): "
            + "how likely nothing BREAKS in these: a fraction in lowest terms (NO: nothing stands).", () -> {
            odds("nothing stands", Due.one(0, 0, 10, 0), 5, MastLeft.NO, MastLeft.NO);
            odds("one, lost", Due.mastIn("wind 99", 50), 60, 1, 1);
            odds("none of 60 DAYS", Due.mastIn("firm 54 p<9", 50, 10), 60, 1, 1);
            odds("the last of 60 DAYS", Due.mastIn("firm 53 p<9", 50, 10), 60, 1, 2);
            odds("not of 59 DAYS", Due.mastIn("firm 53 p<9", 50, 10), 59, 1, 1);
            odds("0 DAYS", Due.mastIn("wind 99", 50, 10), 0, 1, 1);
            odds("1 DAY", Due.mastIn("wind 99", 50, 10), 1, 1, 2);
            odds("2 of 3", Due.mast(50, 10, 10), 6, 2, 3);
            odds("1 of 3", Due.mast(50, 10, 10), 7, 1, 3);
            odds("3 of 3", Due.mast(10, 10, 99), 60, 1, 1);
            MastLeft x = Due.mast(50, 10, 10);
            odds("as it is now", x, 6, 2, 3);
            odds("LENGTHS stay, and all that stands", x, 6, 2, 3);
            Due.each("LENGTHS", 0, p -> x.of(p, 2), 50, 10, 10);
            Probe.bounds("odds, n", Probe::some, n -> y -> y.odds(n, 0), 0, 60, MastLeft.NO);
        });
    }

    private static void mean() {
        Doc.says("MEAN: LOAD of all in THE MAST, together, by how many they are: a fraction in lowest terms (NO likewise).", () -> {
            int[][] masts = {{50}, {50, 10}, {50, 7}, {10, 10, 10}, {10, 10, 19}, {10, 10, 15}};
            long[][] due = {{15, 1}, {23, 2}, {11, 1}, {25, 3}, {10, 1}, {28, 3}};
            for (int i = 0; i < due.length; i++) {
                Due.each("of " + masts[i].length, 0, Due.mast(masts[i])::mean, due[i]);
            }
            MastLeft x = Due.mast(10, 10, 10);
            x.trim(1, 9);
            Due.each("0 by 3", 0, x::mean, 0, 1);
            Due.each("nothing stands", 0, Due.one(0, 0, 10, 0)::mean, MastLeft.NO, MastLeft.NO);
        });
    }

    private static MastLeft planning(int[]... rows) {
        MastLeft x = Due.mast(50);
        for (int i = 0; i < 4; i++) {
            x.piece(0, 0, 30);
        }
        x.pass(1);
        for (int i = 0; i < rows.length; i++) {
            Due.due("plan", x.plan(rows[i][0], rows[i][1]), i + 1);
        }
        return x;
    }

    private static void ends(String name, long went, long height, int[]... rows) {
        Due.each(name, 0, planning(rows)::ends, went, height);
    }

    private static void plan() {
        Doc.says("A PLAN told by hand: what is done (0 a DAY goes, 1 SAIL becomes n (0 .. 9), 2 STAYS become n (0 .. 9), 3 PIECE n is put upon THE MAST "
            + "(nothing, if it is in it or there are 3), 4 THE MAST is taken down; 10 rows at most): ENDS: WENT more; HEIGHT.", () -> {
            int[] day = {0, 0}, down = {4, 0};
            ends("no row", 0, 50);
            ends("a DAY", 5, 50, day);
            ends("ten DAYS, the sixth breaks it", 25, 0, day, day, day, day, day, day, day, day, day, day);
            ends("SAIL 0", 0, 50, new int[] {1, 0}, day);
            ends("SAIL 9 breaks it", 0, 0, new int[] {1, 9}, day);
            ends("STAYS 9, SAIL 3", 15, 50, new int[] {2, 9}, new int[] {1, 3}, day);
            ends("STAYS 0 again", 0, 0, new int[] {2, 9}, new int[] {2, 0}, new int[] {1, 3}, day);
            ends("STAYS 1 is no PIECE", 0, 50, new int[] {2, 1});
            ends("SAIL 1 is no PIECE, and no STAYS", 0, 50, new int[] {1, 1});
            ends("a DAY is no SAIL", 10, 50, new int[] {0, 9}, day);
            ends("down", 0, 0, down);
            ends("down, and down", 0, 0, down, down, day);
            ends("a PIECE upon it", 0, 78, new int[] {3, 1});
            ends("one that is in it", 0, 50, new int[] {3, 0});
            ends("one twice", 0, 78, new int[] {3, 4}, new int[] {3, 4});
            ends("three", 0, 106, new int[] {3, 1}, new int[] {3, 2});
            ends("a fourth", 0, 106, new int[] {3, 1}, new int[] {3, 2}, new int[] {3, 3});
            ends("down, and another", 3, 30, down, new int[] {3, 3}, day);
            ends("in their order", 5, 30, day, down, new int[] {3, 3});
            Probe.keeps("an eleventh", Probe::full, x -> x.plan(0, 0), -4);
            Probe.bounds("plan, SAIL", Probe::some, n -> x -> x.plan(1, n), 0, 9, -2);
            Probe.bounds("plan, STAYS", Probe::some, n -> x -> x.plan(2, n), 0, 9, -2);
        });
    }

    private static void book() {
        Doc.says("A BOOK told by hand: PIECES, LENGTHS (0 .. 99; 8 at most): LOOKED at: the number of the first of these rows by which it is otherwise "
            + "now (-5: none).", () -> {
            Probe.keeps("a ninth", Probe::full, x -> x.book(0, 20), -4);
            Probe.bounds("book, LENGTH", Probe::some, n -> x -> x.book(0, n), 0, 99, -2);
            for (int other = 0; other <= 8; other++) {
                MastLeft x = Due.mast(50, 20);
                for (int i = 0; i < 8; i++) {
                    x.book(i % 2, (i % 2 == 0 ? 50 : 20) - (i >= other ? 1 : 0));
                }
                Due.due("otherwise from row " + other + " on", x.looked(), other == 8 ? -5 : other);
            }
            Due.due("no row", Due.mast(50).looked(), -5);
            MastLeft x = Due.one(0, 0, 99, 0);
            x.book(0, 99);
            Due.due("99", x.looked(), -5);
            x.set(0, 0, 0);
            Due.due("0", x.looked(), 0);
            x.book(-1, 0);
            x.book(0, 0);
            Due.due("0, as told", x.looked(), -5);
        });
    }
}
