/** Promises 25 to 28: plans, books. */
public final class PlansTest {
    public static void main(String[] args) {
        promise25Plan();
        promise26Ends();
        promise27Book();
        promise28Looked();
        Due.end();
    }

    private static void promise25Plan() {
        MastLeft x = new MastLeft();
        x.piece(0, 0, 10);
        Due.due("what -2", x.plan(-2, 0), -1);
        Due.due("what 5", x.plan(5, 0), -1);
        Due.due("no such piece", x.plan(3, 1), -1);
        Due.due("piece -1", x.plan(3, -1), -1);
        Due.due("sail 10", x.plan(1, 10), -2);
        Due.due("stays -1", x.plan(2, -1), -2);
        Due.due("a day, whatever n", x.plan(0, -99), 1);
        Due.due("down, whatever n", x.plan(4, 99), 2);
        Due.due("piece 0", x.plan(3, 0), 3);
        Due.due("sail 9", x.plan(1, 9), 4);
        Due.due("stays 0", x.plan(2, 0), 5);
        Due.due("count(4)", x.count(4), 5);
        Due.due("empty then", x.plan(-1, -1), 0);
        for (int i = 1; i <= 10; i++) {
            Due.due("row " + i, x.plan(0, 0), i);
        }
        Due.due("an eleventh", x.plan(0, 0), -4);
        Due.due("an eleventh, no such piece", x.plan(3, 1), -1);
        Due.due("an eleventh, bad", x.plan(1, 10), -2);
        Due.due("count(4)", x.count(4), 10);
    }

    private static void ends(String name, MastLeft x, int went, int height) {
        Due.due(name + ": WENT more", x.ends(0), went);
        Due.due(name + ": HEIGHT", x.ends(1), height);
    }

    private static void promise26Ends() {
        MastLeft x = Due.mast(50);
        for (int i = 0; i < 4; i++) {
            x.piece(0, 0, 30);
        }
        x.pass(1);
        ends("no plan", x, 0, 50);
        x.plan(0, 9);
        x.plan(0, 9);
        ends("two days, whatever n", x, 10, 50);
        x.plan(4, 0);
        x.plan(0, 0);
        ends("down", x, 10, 0);
        x.plan(3, 2);
        x.plan(3, 2);
        x.plan(1, 2);
        ends("another stands, once", x, 10, 30);
        x.plan(0, 0);
        ends("a day by sail 2", x, 16, 30);
        x.plan(2, 9);
        x.plan(0, 0);
        ends("ten rows", x, 22, 30);
        Due.due("ends(2)", x.ends(2), -1);
        Due.due("ends(-1)", x.ends(-1), -1);
        Due.due("it changed nothing", x.told(0) * 1000 + x.told(5) * 100 + x.told(6), 1550);
        x.plan(-1, 0);
        x.plan(3, 1);
        x.plan(3, 2);
        x.plan(3, 3);
        ends("three are the most", x, 0, 50 + 30 + 30 - 4);
        x.plan(0, 0);
        ends("it breaks, with all upon it", x, 0, 0);
        x.plan(-1, 0);
        x.plan(2, 9);
        x.plan(3, 1);
        x.plan(3, 2);
        x.plan(0, 0);
        ends("nine stays hold it", x, 10, 106);
        x.plan(-1, 0);
        x.plan(1, 2);
        x.plan(0, 0);
        ends("sail is not stays: by sail 2 it breaks", x, 0, 0);
        x.plan(-1, 0);
        x.plan(2, 1);
        ends("stays are no piece", x, 0, 50);
    }

    private static void promise27Book() {
        MastLeft x = new MastLeft();
        x.piece(0, 0, 10);
        Due.due("book(1, 100)", x.book(1, 100), -1);
        Due.due("book(-2, 0)", x.book(-2, 0), -1);
        Due.due("book(0, -1)", x.book(0, -1), -2);
        Due.due("book(0, 100)", x.book(0, 100), -2);
        Due.due("book(0, 0)", x.book(0, 0), 1);
        Due.due("book(0, 99)", x.book(0, 99), 2);
        Due.due("empty then", x.book(-1, 100), 0);
        Due.due("count(5)", x.count(5), 0);
        for (int i = 1; i <= 8; i++) {
            Due.due("row " + i, x.book(0, 10), i);
        }
        Due.due("a ninth", x.book(0, 10), -4);
        Due.due("a ninth, no such piece", x.book(1, 10), -1);
        Due.due("a ninth, bad", x.book(0, 100), -2);
        Due.due("count(5)", x.count(5), 8);
    }

    private static void promise28Looked() {
        MastLeft x = Due.mast(50, 20);
        Due.due("an empty book", x.looked(), -5);
        x.book(1, 20);
        x.book(0, 50);
        Due.due("all as told", x.looked(), -5);
        x.book(0, 49);
        x.book(1, 21);
        Due.due("the third row", x.looked(), 2);
        x.set(0, 0, 49);
        Due.due("the second row then", x.looked(), 1);
        x.set(1, 0, 0);
        Due.due("the first row then", x.looked(), 0);
        x.book(-1, 0);
        Due.due("an empty book again", x.looked(), -5);
    }
}
