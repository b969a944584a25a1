/** The promises 12 to 28, sentence by sentence: days, what is best, what is seen, plans, books. */
final class PromisesOfDays {
    private PromisesOfDays() {
    }

    static void all() {
        pass();
        on();
        first();
        port();
        spread();
        fewest();
        best();
        longest();
        see();
        worn();
        can();
        odds();
        mean();
        plan();
        ends();
        book();
        looked();
    }

    private static void pass() {
        Doc.promise(12);
        Doc.says("n DAYS (0 .. 60) go: WENT then.", () -> {
            MastLeft x = Due.mastIn("firm 99 p<9", 50);
            Due.due("pass(0)", x.pass(0), 0);
            Due.due("DAY", x.told(0), 0);
            Due.due("pass(1)", x.pass(1), 5);
            Due.due("DAY", x.told(0), 1);
            Due.due("pass(0)", x.pass(0), 5);
            Due.due("pass(60)", x.pass(60), 305);
            Due.due("DAY", x.told(0), 61);
            Due.due("WENT", x.told(5), 305);
            Due.due("WEAR", x.of(0, 3), 61);
        });
        Doc.says("BAD;", () -> Probe.bounds("n", Probe::some, n -> x -> x.pass(n), 0, 60, -2));
        Doc.says("STATE: DAY would be above 9999.", () -> {
            Probe.keeps("DAY 9999, pass(1)", Probe::late, x -> x.pass(1), -3);
            Probe.keeps("DAY 9999, pass(60)", Probe::late, x -> x.pass(60), -3);
            Probe.keeps("DAY 9999, pass(0)", Probe::late, x -> x.pass(0), 99999);
            MastLeft x = new MastLeft();
            for (int i = 0; i < 166; i++) {
                x.pass(60);
            }
            Due.due("DAY 9960, pass(40)", x.pass(40), -3);
            Due.due("DAY", x.told(0), 9960);
            Due.due("DAY 9960, pass(39)", x.pass(39), 0);
            Due.due("DAY", x.told(0), 9999);
            Due.due("DAY 9999, pass(1)", x.pass(1), -3);
            Due.due("DAY", x.told(0), 9999);
        });
    }

    private static void on() {
        Doc.promise(13);
        Doc.says("ON: what 0 WENT more, 1 HEIGHT, 2 how many are in THE MAST, 10 and p LENGTH, 20 and p WEAR of PIECE p.", () -> {
            MastLeft x = Probe.full();
            for (int p = 0; p < 6; p++) {
                x.set(p, 0, 20 + p);
                x.set(p, 1, p);
            }
            Due.each("on(0)", 0, what -> x.on(0, what), 0, 20 + 22 + 23 - 4, 3);
            Due.each("LENGTHS on(0)", 10, what -> x.on(0, what), 20, 21, 22, 23, 24, 25);
            Due.each("WEAR on(0)", 20, what -> x.on(0, what), 0, 1, 2, 3, 4, 5);
            Due.each("on(1)", 0, what -> x.on(1, what), 6, 61, 3);
            Due.each("WEAR on(1)", 20, what -> x.on(1, what), 1, 1, 3, 3, 4, 5);
            x.set(0, 1, 99);
            Due.each("on(1), the middle one breaks", 0, what -> x.on(1, what), 0, 22, 1);
            Due.each("LENGTHS", 10, what -> x.on(1, what), 10, 21, 22, 23, 24, 25);
            Due.each("WEAR", 20, what -> x.on(1, what), 0, 1, 2, 3, 4, 5);
            MastLeft went = Probe.some();
            Due.each("WENT more, of 12", 0, n -> went.on(n, 0), 0, 6, 12, 18);
        });
        Doc.says("NONE;", () -> {
            Probe.bounds("of no PIECE", Probe::bare, what -> x -> x.on(5, what), 0, 2, -1);
            Probe.beyond("LENGTH of four", Probe::some, what -> x -> x.on(5, what), 10, 13, -1);
            Probe.beyond("WEAR of four", Probe::some, what -> x -> x.on(5, what), 20, 23, -1);
            Probe.beyond("LENGTH of six", Probe::full, what -> x -> x.on(5, what), 10, 15, -1);
            Probe.beyond("WEAR of six", Probe::full, what -> x -> x.on(5, what), 20, 25, -1);
            Probe.keeps("what 3", Probe::full, x -> x.on(5, 3), -1);
        });
        Doc.says("BAD: n.", () -> {
            for (int what : new int[] {0, 2, 10, 13, 20, 23}) {
                Probe.bounds("n, of " + what, Probe::some, n -> x -> x.on(n, what), 0, 60, -2);
            }
        });
    }

    private static void first() {
        Doc.promise(14);
        Doc.says("FIRST: what 0 the DAY, 1 which; -5.", () -> {
            MastLeft x = Probe.full();
            x.set(3, 1, 17);
            Due.each("the top, on the next DAY", 0, what -> x.first(what), 0, 3);
            x.set(3, 1, 0);
            Due.each("the middle one, on DAY 9", 0, what -> x.first(what), 9, 0);
            x.trim(1, 9);
            Due.each("nothing breaks", 0, what -> x.first(what), -5, -5);
            Due.each("the foot, on DAY 6", 0, what -> Due.mast(50).first(what), 6, 0);
        });
        Doc.says("NONE.", () -> Probe.bounds("what", Probe::some, what -> x -> x.first(what), 0, 1, -1));
    }

    private static void port() {
        Doc.promise(15);
        Doc.says("PORT; -5.", () -> {
            MastLeft x = Probe.some();
            Due.each("port", 0, m -> x.port(m), 0, 1, 1, 1, 1, 1, 1, 2);
            Due.due("not by then", x.port(9999), -5);
        });
        Doc.says("BAD.", () -> Probe.bounds("m", Probe::bare, m -> x -> x.port(m), 0, 9999, -2));
    }

    private static void spread() {
        Doc.promise(16);
        Doc.says("SPREAD.", () -> {
            Due.due("1", Due.mast(50).spread(), 1);
            Due.due("9", Due.mastIn("firm 99 p<9", 10).spread(), 9);
            Due.due("0", Probe.bare().spread(), 0);
        });
    }

    private static void fewest() {
        Doc.promise(17);
        Doc.says("FEWEST; -5.", () -> {
            MastLeft x = Due.mast(50);
            x.trim(0, 2);
            int[] days = {1, 2, 3, 5, 6, 8, 9, 11, 12, 30};
            long[] due = {2, 2, 3, 3, 4, 4, 5, 5, 6, 6};
            for (int i = 0; i < days.length; i++) {
                Due.due("fewest(" + days[i] + ")", x.fewest(days[i]), due[i]);
            }
            x.trim(0, 9);
            Due.due("none is enough", x.fewest(1), -5);
        });
        Doc.says("BAD.", () -> Probe.bounds("n", Probe::full, n -> x -> x.fewest(n), 1, 30, -2));
    }

    private static void best() {
        Doc.promise(18);
        Doc.says("FARTHEST (what 0), HIGHEST (1): k 0 .. 2 the k-th (-5: there are fewer), 3 how much (-5: there is no such row).", () -> {
            MastLeft x = Due.mast(12, 12, 12, 12);
            TermsTwo.row("FARTHEST, three", x, 0, 0, 1, 2, 30);
            TermsTwo.row("HIGHEST, three", x, 1, 0, 1, 2, 32);
            MastLeft two = Due.mast(12, 12);
            TermsTwo.row("FARTHEST, two", two, 0, 0, 1, -5, 20);
            TermsTwo.row("HIGHEST, two", two, 1, 0, 1, -5, 22);
            MastLeft one = Due.mast(60);
            TermsTwo.row("FARTHEST, one", one, 0, 0, -5, -5, 24);
            TermsTwo.row("HIGHEST, one", one, 1, 0, -5, -5, 60);
            TermsTwo.row("FARTHEST, none", new MastLeft(), 0, -5, -5, -5, -5);
            TermsTwo.row("HIGHEST, none", new MastLeft(), 1, -5, -5, -5, -5);
            MastLeft breaks = Due.mastIn("wind 99", 12, 12);
            TermsTwo.row("FARTHEST, all break", breaks, 0, 0, -5, -5, 0);
            TermsTwo.row("HIGHEST, all break", breaks, 1, -5, -5, -5, -5);
        });
        Doc.says("NONE.", () -> {
            Probe.bounds("what", Probe::some, what -> x -> x.best(what, 3), 0, 1, -1);
            Probe.bounds("k, FARTHEST", Probe::some, k -> x -> x.best(0, k), 0, 3, -1);
            Probe.bounds("k, HIGHEST", Probe::some, k -> x -> x.best(1, k), 0, 3, -1);
        });
    }

    private static void longest() {
        Doc.promise(19);
        Doc.says("LONGEST: k 0 .. 2 the k-th (-5: there are fewer), 3 FIRST then (-5).", () -> {
            TermsTwo.row("three", Due.mast(20, 20, 20), 2, 0, 1, 2, 5);
            TermsTwo.row("two", Due.mastIn("firm 10 p=1", 30, 30), 2, 1, 0, -5, 10);
            TermsTwo.row("one", Due.mast(50), 2, 0, -5, -5, 6);
            TermsTwo.row("one that never breaks", Due.mast(10), 2, 0, -5, -5, -5);
            TermsTwo.row("none", Due.one(0, 0, 10, 0), 2, -5, -5, -5, -5);
        });
        Doc.says("NONE.", () -> Probe.bounds("k", Probe::some, k -> x -> x.longest(k), 0, 3, -1));
    }

    private static void see() {
        Doc.promise(20);
        Doc.says("What is SEEN comes: how many there are", () -> {
            MastLeft x = Due.mast(50);
            for (int i = 1; i <= 5; i++) {
                Due.due("see", x.see(1, i), i);
                Due.due("count(3)", x.count(3), i);
                Due.due("all of them are so, by WEAR 0 to " + (6 - i), x.worn(0, 0), 7 - i);
            }
        });
        Doc.says("(many -1: none then, 0, whatever the other is).", () -> {
            for (int other : new int[] {0, 1, 20, 21, -1, Integer.MIN_VALUE, Integer.MAX_VALUE}) {
                MastLeft x = Probe.full();
                Due.due("see(-1, " + other + ")", x.see(-1, other), 0);
                Due.due("none", x.count(3), 0);
                Due.due("whatever its WEAR is", x.worn(0, 0), 61);
                Due.due("the first again", x.see(0, 0), 1);
            }
            Due.due("none ahead of it either", new MastLeft().see(-1, 0), 0);
        });
        Doc.says("BAD: many, n;", () -> {
            Probe.keeps("many -2", Probe::some, x -> x.see(-2, 3), -2);
            Probe.beyond("many", Probe::some, many -> x -> x.see(many == -1 ? -2 : many, 3), 0, 3, -2);
            Probe.bounds("n", Probe::some, n -> x -> x.see(2, n), 0, 20, -2);
            for (int many = 0; many <= 3; many++) {
                Due.due("see(" + many + ", 20)", Probe.some().see(many, 20), 3);
            }
        });
        Doc.says("FULL: 5.", () -> Probe.keeps("a sixth", Probe::full, x -> x.see(3, 1), -4));
    }

    private static void worn() {
        Doc.promise(21);
        Doc.says("WORN: what 0 how many, 1 the least; -5.", () -> {
            MastLeft x = Due.mast(50);
            x.see(1, 3);
            x.see(0, 5);
            Due.each("2 and 3", 0, what -> x.worn(0, what), 2, 2);
            x.see(1, 5);
            Due.each("none", 0, what -> x.worn(0, what), 0, -5);
        });
        Doc.says("NONE.", () -> {
            Probe.bounds("PIECE", Probe::some, p -> x -> x.worn(p, 0), 0, 3, -1);
            Probe.bounds("what", Probe::some, what -> x -> x.worn(0, what), 0, 1, -1);
        });
    }

    private static void can() {
        Doc.promise(22);
        Doc.says("CAN: what 0 how many, 1 the least; -5.", () -> {
            MastLeft x = Due.one(3, 5, 50, 0);
            x.hoist(0);
            x.see(1, 8);
            x.see(0, 11);
            Due.each("2, 3 and 4", 0, what -> x.can(0, what), 3, 2);
            x.see(0, 0);
            Due.each("none", 0, what -> x.can(0, what), 0, -5);
        });
        Doc.says("NONE.", () -> {
            Probe.bounds("PIECE", Probe::some, p -> x -> x.can(p, 0), 0, 3, -1);
            Probe.bounds("what", Probe::some, what -> x -> x.can(0, what), 0, 1, -1);
        });
    }

    private static void odds() {
        Doc.promise(23);
        Doc.says("ODDS; part 0 above, 1 below the line.", () -> {
            Due.each("2 of 3", 0, part -> Due.mast(50, 10, 10).odds(6, part), 2, 3);
            Due.each("1 of 2", 0, part -> Due.mast(50, 50).odds(7, part), 1, 2);
            Due.each("2 of 2", 0, part -> Due.mast(50, 50).odds(6, part), 1, 1);
        });
        Doc.says("NO.", () -> {
            Probe.bounds("n", Probe::full, n -> x -> x.odds(n, 0), 0, 60, MastLeft.NO);
            Probe.bounds("n, below the line", Probe::full, n -> x -> x.odds(n, 1), 0, 60, MastLeft.NO);
            Probe.bounds("part", Probe::some, part -> x -> x.odds(5, part), 0, 1, MastLeft.NO);
            Probe.keeps("nothing stands", Probe::bare, x -> x.odds(5, 0), MastLeft.NO);
            Probe.keeps("nothing stands, below", Probe::bare, x -> x.odds(0, 1), MastLeft.NO);
        });
    }

    private static void mean() {
        Doc.promise(24);
        Doc.says("MEAN; part likewise.", () -> {
            Due.each("23 by 2", 0, part -> Due.mast(50, 10).mean(part), 23, 2);
            Due.each("30 by 3", 0, part -> Due.mast(10, 10, 19).mean(part), 10, 1);
        });
        Doc.says("NO.", () -> {
            Probe.bounds("part", Probe::some, part -> x -> x.mean(part), 0, 1, MastLeft.NO);
            Probe.keeps("nothing stands", Probe::bare, x -> x.mean(0), MastLeft.NO);
            Probe.keeps("nothing stands, below", Probe::bare, x -> x.mean(1), MastLeft.NO);
        });
    }

    private static void plan() {
        Doc.promise(25);
        Doc.says("A row comes to the PLAN: how many there are", () -> {
            MastLeft x = Due.mast(50);
            for (int i = 1; i <= 10; i++) {
                Due.due("plan", x.plan(i < 6 ? 0 : 2, 0), i);
                Due.due("count(4)", x.count(4), i);
                Due.due("ENDS", x.ends(0), 5 * Math.min(i, 5));
            }
        });
        Doc.says("(what -1: it is empty then, 0, whatever the other is).", () -> {
            for (int other : new int[] {0, 9, 10, -1, Integer.MIN_VALUE, Integer.MAX_VALUE}) {
                MastLeft x = Probe.full();
                Due.due("plan(-1, " + other + ")", x.plan(-1, other), 0);
                Due.due("it is empty", x.count(4), 0);
                Due.due("nothing is done", x.ends(0), 0);
                Due.due("the first again", x.plan(4, 0), 1);
                Due.due("it is done alone", x.ends(1), 0);
            }
            Due.due("empty ahead of it either", new MastLeft().plan(-1, 0), 0);
        });
        Doc.says("NONE: what (0 .. 4), PIECE (by 3);", () -> {
            Probe.keeps("what 5", Probe::some, x -> x.plan(5, 0), -1);
            Probe.keeps("what -2", Probe::some, x -> x.plan(-2, 0), -1);
            Probe.keeps("the greatest what", Probe::some, x -> x.plan(Integer.MAX_VALUE, 0), -1);
            Probe.keeps("the least what", Probe::some, x -> x.plan(Integer.MIN_VALUE, 0), -1);
            Due.each("what", 0, what -> Probe.some().plan(what, 0), 5, 5, 5, 5, 5);
            Probe.bounds("PIECE", Probe::some, p -> x -> x.plan(3, p), 0, 3, -1);
            Probe.bounds("PIECE of none", Probe::bare, p -> x -> x.plan(3, p), 0, -1, -1);
        });
        Doc.says("BAD: n (by 1, 2; by 0, 4 it does not matter);", () -> {
            Probe.bounds("SAIL", Probe::some, n -> x -> x.plan(1, n), 0, 9, -2);
            Probe.bounds("STAYS", Probe::some, n -> x -> x.plan(2, n), 0, 9, -2);
            for (int n : new int[] {0, 9, 10, -1, Integer.MIN_VALUE, Integer.MAX_VALUE}) {
                Due.due("a DAY, " + n, Probe.some().plan(0, n), 5);
                Due.due("taken down, " + n, Probe.some().plan(4, n), 5);
            }
        });
        Doc.says("FULL: 10.", () -> {
            for (int what = 0; what <= 4; what++) {
                int w = what;
                Probe.keeps("an eleventh, " + w, Probe::full, x -> x.plan(w, 0), -4);
            }
        });
    }

    private static void ends() {
        Doc.promise(26);
        Doc.says("ENDS: what 0 WENT more, 1 HEIGHT.", () -> {
            MastLeft x = Probe.some();
            Due.each("a DAY, PIECE 2 upon it, SAIL 2, a DAY: it breaks", 0, what -> x.ends(what), 6, 0);
            x.plan(-1, 0);
            x.plan(0, 0);
            x.plan(3, 2);
            Due.each("a DAY, PIECE 2 upon it", 0, what -> x.ends(what), 6, 95);
        });
        Doc.says("NONE.", () -> Probe.bounds("what", Probe::some, what -> x -> x.ends(what), 0, 1, -1));
    }

    private static void book() {
        Doc.promise(27);
        Doc.says("A row comes to the BOOK: how many there are", () -> {
            MastLeft x = Due.mast(50);
            for (int i = 1; i <= 8; i++) {
                Due.due("book", x.book(0, i == 8 ? 49 : 50), i);
                Due.due("count(5)", x.count(5), i);
                Due.due("LOOKED at", x.looked(), i == 8 ? 7 : -5);
            }
        });
        Doc.says("(piece -1: it is empty then, 0, whatever the other is).", () -> {
            for (int other : new int[] {0, 99, 100, -1, Integer.MIN_VALUE, Integer.MAX_VALUE}) {
                MastLeft x = Probe.full();
                x.set(0, 0, 1);
                Due.due("otherwise", x.looked(), 0);
                Due.due("book(-1, " + other + ")", x.book(-1, other), 0);
                Due.due("it is empty", x.count(5), 0);
                Due.due("none is otherwise", x.looked(), -5);
                Due.due("the first again", x.book(0, 0), 1);
            }
            Due.due("empty ahead of it either", new MastLeft().book(-1, 0), 0);
        });
        Doc.says("NONE;", () -> {
            Probe.keeps("PIECE 4 of four", Probe::some, x -> x.book(4, 20), -1);
            Probe.keeps("PIECE -2", Probe::some, x -> x.book(-2, 20), -1);
            Probe.keeps("PIECE 6 of six", Probe::full, x -> x.book(6, 20), -1);
            Probe.keeps("the greatest", Probe::some, x -> x.book(Integer.MAX_VALUE, 20), -1);
            Probe.keeps("the least", Probe::some, x -> x.book(Integer.MIN_VALUE, 20), -1);
            Due.each("PIECE", 0, p -> Probe.some().book(p, 20), 4, 4, 4, 4);
        });
        Doc.says("BAD: length;", () -> Probe.bounds("length", Probe::some, n -> x -> x.book(3, n), 0, 99, -2));
        Doc.says("FULL: 8.", () -> Probe.keeps("a ninth", Probe::full, x -> x.book(0, 20), -4));
    }

    private static void looked() {
        Doc.promise(28);
        Doc.says("LOOKED at; -5.", () -> {
            MastLeft x = Probe.some();
            Due.due("the third row", x.looked(), 2);
            x.set(3, 0, 43);
            Due.due("none", x.looked(), -5);
            x.set(1, 0, 20);
            Due.due("the second row", x.looked(), 1);
            x.set(0, 0, 49);
            Due.due("the first row", x.looked(), 0);
        });
    }
}
