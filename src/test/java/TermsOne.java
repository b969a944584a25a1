/** ==== 1 of the document's Terms: PIECES, THE MAST, OCEANS, DAYS. */
final class TermsOne {
    /** HEART 713. */
    static final String STRONG = "firm 99 p<9;firm 99 p<9;firm 99 p<9;firm 99 p<9;firm 99 p<9;firm 99 p<9;firm 99 p<9;wind 0";

    private TermsOne() {
    }

    static void all() {
        Doc.terms("==== 1");
        pieces();
        mast();
        clauses();
        tests();
        faults();
        heart();
        strength();
        strengthOfThoseUnder();
        aboveAndLoad();
        breaks();
        days();
    }

    private static void pieces() {
        Doc.says("PIECES 0 .. 5, as they come,", () -> {
            MastLeft x = new MastLeft();
            Due.each("piece of v", 0, v -> x.piece(0, v, 1), 0, 1, 2, 3, 4, 5, -4);
            Due.each("v of PIECE", -1, p -> x.of(p, 1), -1001, 0, 1, 2, 3, 4, 5, -1001);
        });
        Doc.says("are of KINDS: 0 PIECE; 1 OAR, 2 BOOM, 3 POLE under PIECE; 4 WIRED under OAR; 5 CRACKED under BOOM; 6 TOLD under POLE;", () -> {
            long[][] due = {
                {0, -12, -12, -12, -12, -12, -12}, {1, 1, -12, -12, -12, -12, -12}, {2, -12, 2, -12, -12, -12, -12},
                {3, -12, -12, 3, -12, -12, -12}, {4, 4, -12, -12, 4, -12, -12}, {5, -12, 5, -12, -12, 5, -12},
                {6, -12, -12, 6, -12, -12, 6}};
            for (int kind = 0; kind <= 6; kind++) {
                MastLeft x = Due.one(kind, 0, 1, 0);
                Due.due("KIND", x.of(0, 0), kind);
                Due.each("KIND " + kind + " taken", 0, k -> x.taken(0, k), due[kind]);
            }
        });
        Doc.says("with a number v (0 .. 9),", () -> {
            Probe.bounds("piece, v", Probe::bare, v -> x -> x.piece(0, v, 1), 0, 9, -2);
            for (int v = 0; v <= 9; v++) {
                Due.due("v", Due.one(0, v, 1, 0).of(0, 1), v);
            }
        });
        Doc.says("LENGTH (0 .. 99 feet),", () -> {
            Probe.bounds("set, LENGTH", Probe::some, n -> x -> x.set(0, 0, n), 0, 99, -2);
            MastLeft x = Due.mastIn("weak 99 p<9", 99);
            x.set(0, 0, 1);
            x.pass(1);
            Due.due("1 foot breaks", x.of(0, 4), 1);
            Due.due("the half of 1", x.of(0, 2), 0);
            x.hoist(0);
            x.pass(1);
            Due.due("0 feet break", x.of(0, 4), 2);
            Due.due("the half of 0", x.of(0, 2), 0);
        });
        Doc.says("WEAR (0 .. 99; 0 at first),", () -> {
            for (int kind = 0; kind <= 6; kind++) {
                MastLeft x = new MastLeft();
                x.piece(kind, 9, 99);
                Due.due("WEAR at first, KIND " + kind, x.of(0, 3), 0);
            }
            Probe.bounds("set, WEAR", Probe::some, n -> x -> x.set(0, 1, n), 0, 99, -2);
        });
        Doc.says("BROKE (how many times, 0 .. 9999; 0 at first).", () -> {
            MastLeft x = Due.mastIn("weak 99 p<9", 99);
            for (int i = 0; i <= 150; i++) {
                Due.due("BROKE", x.of(0, 4), i);
                x.pass(1);
                x.hoist(0);
            }
        });
    }

    private static void mast() {
        Doc.says("THE MAST: PIECES one upon the other, from the foot on (3 at most, none twice; none at first).", () -> {
            Due.due("none at first", Probe.bare().count(2), 0);
            MastLeft x = Probe.full();
            Due.each("told", 10, k -> x.told(k), 2, 0, 3, -1);
            Due.each("places", 0, p -> x.of(p, 7), 1, -5, 0, 2, -5, -5);
            Probe.keeps("a fourth", Probe::full, y -> y.hoist(1), -4);
            Probe.keeps("one twice", Probe::some, y -> y.hoist(0), -3);
        });
        Doc.says("SAIL (0 .. 9; 1 at first).", () -> {
            Due.due("SAIL at first", Probe.bare().told(3), 1);
            Probe.bounds("trim, SAIL", Probe::some, n -> x -> x.trim(0, n), 0, 9, -2);
        });
        Doc.says("STAYS (0 .. 9; 0 at first).", () -> {
            Due.due("STAYS at first", Probe.bare().told(4), 0);
            Probe.bounds("trim, STAYS", Probe::some, n -> x -> x.trim(1, n), 0, 9, -2);
        });
        Doc.says("WENT (miles, 0 .. 99999; 0 at first).", () -> {
            Due.due("WENT at first", Probe.bare().told(5), 0);
            Due.due("WENT on DAY 9999", Probe.late().told(5), 99999);
        });
        Doc.says("DAY: 0 at first.", () -> Due.due("DAY at first", Probe.bare().told(0), 0));
    }

    /** What a new object answers to the text: 0 for an OCEAN, or -10 less the FAULT. */
    static void reads(String text, long due) {
        Due.due("'" + text + "'", Due.ocean(new MastLeft(), text), due);
    }

    private static String times(int n, String clause) {
        return (clause + ";").repeat(n).substring(0, n * (clause.length() + 1) - 1);
    }

    private static void clauses() {
        Doc.says("An OCEAN is read from THE TEXT (bytes, 100 at most):", () -> {
            String hundred = "firm 99 p<9" + "|p<9".repeat(22) + ";";
            Due.due("signs", hundred.length(), 100);
            reads(hundred.substring(0, 99), 0);
            reads(hundred, -110);
            reads("firm 9 p<9" + "|p<9".repeat(21) + "&p<10;", -110);
            reads("firm 9 p<10" + "|p<9".repeat(20) + "&p<10|p=9", 0);
            MastLeft x = new MastLeft();
            Due.feed(x, hundred);
            Due.due("a 101st", x.feed('w'), -4);
            Due.due("THE TEXT is of 100 as it was", x.ocean(), -110);
        });
        Doc.says("CLAUSES, 1 to 10, with ; between:", () -> {
            reads("", -10);
            reads(times(1, "lash 0"), 0);
            reads(times(9, "lash 0"), 0);
            reads(times(10, "lash 0"), 0);
            reads(times(11, "lash 0"), -10 - 69);
            reads(times(10, "lash 0") + ";", -10 - 69);
            reads("wind 1;", -17);
            reads(";wind 1", -10);
            reads("wind 1;;wind 2", -17);
            reads("wind 1,wind 2", -16);
            reads("wind 1wind 2", -16);
            reads("wind 1 ;wind 2", -16);
            reads("wind 1; wind 2", -17);
        });
        Doc.says("firm n E; weak n E; wind n; lash n", () -> {
            Due.due("firm", heartIn("firm 7 p=1"), 27);
            Due.due("weak", heartIn("weak 7 p=1"), 13);
            MastLeft x = new MastLeft();
            Due.ocean(x, "wind 7;lash 8");
            Due.due("wind", x.told(1), 7);
            Due.due("lash", x.told(2), 8);
            reads("Wind 1", -10);
            reads("wand 1", -11);
            reads("wint 1", -13);
            reads("winds 1", -14);
            reads("wond 1", -11);
            reads("wean 1", -13);
            reads("fire 1", -13);
            reads("lasm 1", -13);
            reads("wind 1 p=1", -16);
            reads("lash 1 p=1", -16);
            reads("firm 1", -16);
            reads("weak 1;", -16);
        });
        Doc.says("(one blank ahead of each part behind the word; n 1 or 2 digits).", () -> {
            reads("wind1", -14);
            reads("wind  1", -15);
            reads("wind\t1", -14);
            reads("wind 1 ", -16);
            reads("firm 1p=1", -16);
            reads("firm 1  p=1", -17);
            reads("firm 1 p=1 ", -20);
            reads("firm  1 p=1", -15);
            reads("wind 0", 0);
            reads("wind 99", 0);
            reads("wind 00", 0);
            reads("wind 100", -17);
            reads("wind ", -15);
            reads("wind -1", -15);
            reads("wind /", -15);
            reads("wind :", -15);
            reads("wind 1:", -16);
            reads("wind 1/", -16);
            reads("lash 123", -17);
            reads("firm 100 p=1", -17);
            reads("weak 100 p=1", -17);
            reads("firm 99 p=1;weak 09 p=1", 0);
        });
    }

    /** HEART of PIECE 1, a BOOM of v 3, 45 feet and WEAR 67, on DAY 12. */
    private static int heartIn(String text) {
        MastLeft x = new MastLeft();
        x.piece(0, 0, 1);
        x.piece(2, 3, 45);
        x.set(1, 1, 67);
        x.pass(12);
        Due.due(text, Due.ocean(x, text), 0);
        return x.of(1, 5);
    }

    private static void holds(String... es) {
        for (String e : es) {
            Due.due("firm 7 " + e, heartIn("firm 7 " + e), 27);
        }
    }

    private static void fails(String... es) {
        for (String e : es) {
            Due.due("firm 7 " + e, heartIn("firm 7 " + e), 20);
        }
    }

    private static void tests() {
        Doc.says("E: T or T|E. T: F or F&T. F: !F, (E), or a TEST:", () -> {
            holds("p=1", "p=1|p=2", "p=2|p=1", "p=2|p=2|p=1", "p=1|p=2|p=2", "p=1&v=3", "p=1&v=3&k=2", "!p=2", "!!p=1", "(p=1)", "((p=1))");
            fails("p=2", "p=2|p=3", "p=2|p=3|p=4", "p=1&p=2", "p=2&p=1", "p=1&p=1&p=2", "p=2&p=1&p=1", "!p=1", "!!p=2", "(p=2)", "!(p=1)");
            holds("p=1|p=2&p=3", "p=2&p=3|p=1", "(p=1|p=2)&v=3", "!p=2|p=1", "!p=2&p=1", "!(p=1&p=2)", "!(p=2|p=3)");
            fails("(p=1|p=2)&p=3", "p=3&(p=1|p=2)", "!(p=1|p=2)", "!p=1|p=2", "!p=1&p=2", "p=2|p=1&p=3", "!(p=1&v=3)");
            holds("v=3&p=1", "v=3&p<2", "v=3&p>0", "v<4&p=1", "v<4&p<2", "v<4&p>0", "v>2&p=1", "v>2&p<2", "v>2&p>0");
            fails("v=3&p=0", "v=3&p<1", "v=3&p>1", "v=4&p=1", "v<3&p<2", "v>3&p>0", "v=0|p=0", "v<3|p<1", "v>3|p>1");
            holds("v=0|p=1", "v<3|p<2", "v>3|p>0", "v=3|p=0", "v<4|p<1", "v>2|p>1");
            holds("p=1&(v=3&k=2)", "p=1&(v=3|k=0)", "(v=3&k=2)&p=1", "p=0|(v=3&k=2)", "p=0|(p=0|v=3)", "p=1&!(v=3&k=0)", "p=1&(p=1&(p=1&(p=1)))");
            fails("p=1&(v=3&k=0)", "p=1&(v=0|k=0)", "p=0&(v=3|k=2)", "(v=3|k=2)&p=0", "p=0|(v=3&k=0)", "p=1&!(v=3&k=2)", "p=1&(p=1&(p=1&(p=0)))");
            holds("(p=0|v=3)&(p=1|v=0)", "(p=1&v=0)|(p=1&v=3)", "p=0&p=0|p=1&p=1", "p=1&p=1|p=0&p=0", "!(p=0|v=0)&!(k=0|d=0)");
            fails("(p=0|v=3)&(p=0|v=0)", "(p=1&v=0)|(p=0&v=3)", "p=0&p=1|p=1&p=0", "!(p=0|v=3)&!(k=0|d=0)");
            reads("firm 1 ()", -18);
            reads("firm 1 !", -18);
            reads("firm 1 p=1|", -21);
            reads("firm 1 p=1&", -21);
            reads("firm 1 p=1||p=2", -21);
            reads("firm 1 p=1&|p=2", -21);
            reads("firm 1 |p=1", -17);
            reads("firm 1 (p=1", -21);
            reads("firm 1 (p=1;", -21);
            reads("firm 1 p=1)", -20);
            reads("firm 1 (p=1))", -22);
            reads("firm 1 p=1!p=2", -20);
            reads("firm 1 p=1(p=2)", -20);
            reads("firm 1 (p=1)p=2", -22);
        });
        Doc.says("a letter, < or = or >, a number (1 or 2 digits): of a PIECE p its number, k its KIND, v its v, l LENGTH by 10 (cut), "
            + "w WEAR by 10 (cut), d DAY modulo 10.", TermsOne::eachTest);
    }

    private static void eachTest() {
        String[] facts = {"p1", "k2", "v3", "l4", "w6", "d2"};
        for (String fact : facts) {
            char letter = fact.charAt(0);
            int n = fact.charAt(1) - '0';
            holds(letter + "=" + n, letter + "=0" + n, letter + "<" + (n + 1), letter + ">" + (n - 1), letter + "<99");
            fails(letter + "=" + (n + 1), letter + "=" + (n - 1), letter + "<" + n, letter + ">" + n, letter + "=" + n + n, letter + ">99");
        }
        MastLeft x = Due.one(0, 0, 10, 10);
        Due.ocean(x, "firm 1 l=0;firm 2 l=1;firm 4 w=0;firm 8 w=1;firm 16 l=9;firm 32 w=9");
        Due.due("10 feet, WEAR 10", x.of(0, 5), 20 + 2 + 8);
        x.set(0, 0, 9);
        x.set(0, 1, 9);
        Due.due("9 feet, WEAR 9", x.of(0, 5), 20 + 1 + 4);
        x.set(0, 0, 99);
        x.set(0, 1, 99);
        Due.due("99 feet, WEAR 99", x.of(0, 5), 20 + 16 + 32);
        x = Due.one(0, 0, 10, 0);
        Due.ocean(x, "firm 1 d=9;firm 2 d=0;firm 4 d>9");
        long[] due = {22, 20, 20, 20, 20, 20, 20, 20, 20, 21, 22, 20};
        for (int day = 0; day < due.length; day++) {
            Due.due("on DAY " + day, x.of(0, 5), due[day]);
            x.pass(1);
        }
        reads("firm 1 p=100", -21);
        reads("firm 1 p=", -19);
        reads("firm 1 p=x", -19);
        reads("firm 1 p=-1", -19);
        reads("firm 1 p", -18);
        reads("firm 1 p!1", -18);
        reads("firm 1 p<=1", -19);
        reads("firm 1 p==1", -19);
        reads("firm 1 p1", -18);
        reads("firm 1 P=1", -17);
        for (char c = 0; c < 128; c++) {
            boolean begins = "pkvlwd!(".indexOf(c) >= 0;
            reads("firm 1 " + c, begins ? -18 : -17);
        }
    }

    private static void faults() {
        Doc.says("A ( or ! within 4 others is none.", () -> {
            reads("firm 1 !!!!p=1", 0);
            reads("firm 1 !!!!!p=1", -21);
            reads("firm 1 ((((p=1))))", 0);
            reads("firm 1 (((((p=1)))))", -21);
            reads("firm 1 !(!(p=1))", 0);
            reads("firm 1 !(!(!p=1))", -21);
            reads("firm 1 (!(!(p=1)))", -21);
            reads("firm 1 ((((p=1))&((p=2))))", 0);
            reads("firm 1 ((((p=1)&((p=2)))))", -10 - 17);
            reads("firm 1 !p=1&!p=2&!p=3&!p=4&!p=5&!p=6", 0);
            reads("firm 1 (p=1)&(p=2)&(p=3)|(p=4)|(p=5)", 0);
            reads("firm 1 !!!!p=1&((((p=1))))|!!!!p=2", 0);
            reads("firm 1 ((((p=1))));firm 1 ((((p=1))))", 0);
            reads("firm 1 ((((p=1))));firm 1 (((((p=1))))", -10 - 30);
        });
        Doc.says("The FAULT: the place of the first byte with which none begins so (the end of THE TEXT, if it ends too early).", () -> {
            String whole = "firm 12 p=12&!(k<3);wind 7";
            for (int end = 0; end < whole.length(); end++) {
                boolean fine = end == 11 || end == 12 || end == 19;
                reads(whole.substring(0, end), fine ? 0 : -10 - end);
                reads(whole.substring(0, end) + "#", -10 - end);
                reads(whole.substring(0, end) + "\u0000", -10 - end);
                reads(whole.substring(0, end) + "\u007f" + whole, -10 - end);
            }
            reads(whole, 0);
            reads("w", -11);
            reads("we", -12);
            reads("wi", -12);
            reads("l", -11);
            reads("f", -11);
            endsTooEarly();
        });
    }

    /** What stood behind the end in an earlier text is no part of this one; nor is what no text can hold. */
    private static void endsTooEarly() {
        String[] wholes = {"firm 12 p=12", "weak 12 (!p=12)", "wind 12", "lash 12", "wind 1;lash 12"};
        for (String whole : wholes) {
            for (int end = 0; end <= whole.length(); end++) {
                MastLeft x = new MastLeft();
                Due.due("a whole text", Due.ocean(x, whole), 0);
                String cut = whole.substring(0, end);
                long due = Due.ocean(new MastLeft(), cut);
                Due.due("'" + cut + "' ends as if nothing had stood there", Due.ocean(x, cut), due == 0 ? 1 : due);
                Due.due("'" + cut + "' is whole, or ends too early", due == 0 ? -10 - end : due, -10 - end);
            }
        }
        MastLeft x = new MastLeft();
        Due.ocean(x, "wind 12");
        Due.due("a number of one digit", Due.ocean(x, "wind 1"), 1);
        Due.due("WIND", x.told(1), 1);
        String[] early = {"|", "&", "|p", "|p<", "|(", "|!", "|(p=1", "|((((p=1)))", ";", ";w", ";wi", ";win", ";wind", ";wind ", ";l", ";las", ";f",
            ";firm", ";firm 1", ";firm 12", ";firm 1 ", ";weak 9 p", ";weak 9 p>", ";we"};
        for (String tail : early) {
            reads(hundred(tail), -110);
        }
        String[] whole = {"|p<9", "|p<99", "&(p=1)", "&!!!!p=1", ";wind 1", ";wind 12", ";firm 1 p=1", ";weak 12 (p=12)"};
        for (String tail : whole) {
            reads(hundred(tail), 0);
            reads(hundred(tail + "#"), -109);
        }
    }

    /** A text of 100 bytes that ends so. */
    private static String hundred(String tail) {
        int left = 90 - tail.length();
        int five = left % 4;
        String s = "firm 9 p<9" + "|p<99".repeat(five) + "|p<9".repeat((left - 5 * five) / 4) + tail;
        Due.due("bytes", s.length(), 100);
        return s;
    }

    private static void heart() {
        Doc.says("The newest OCEAN holds (6 at most); without one there are no CLAUSES.", () -> {
            MastLeft x = Due.one(0, 0, 1, 0);
            Due.due("HEART without", x.of(0, 5), 20);
            Due.due("WIND without", x.told(1), 5);
            Due.due("LASH without", x.told(2), 2);
            Due.due("a FAULT", Due.ocean(x, "wind 9;firm 9 p<9;lash 9;"), -35);
            Due.due("HEART behind a FAULT", x.of(0, 5), 20);
            Due.due("WIND behind a FAULT", x.told(1), 5);
            for (int i = 0; i < 6; i++) {
                Due.due("OCEAN", Due.ocean(x, "wind 1" + i + ";firm " + (i + 1) + " p=0"), i);
                Due.due("WIND of OCEAN " + i, x.told(1), 10 + i);
                Due.due("HEART of OCEAN " + i, x.of(0, 5), 21 + i);
                Due.due("LASH of OCEAN " + i, x.told(2), 2);
            }
            Due.due("a seventh", Due.ocean(x, "wind 1"), -4);
            Due.due("the sixth holds", x.told(1), 15);
        });
        Doc.says("HEART of a PIECE: 20, and the n of all firm whose E holds, less those of all weak, together (may be below 0).", () -> {
            Due.due("none holds", heartIn("firm 9 p=0;weak 9 p=0"), 20);
            Due.due("all that hold", heartIn("firm 7 p=1;weak 3 p=1;firm 20 p=2;wind 3;firm 1 d=2;weak 40 p=0;weak 2 k=2"), 23);
            Due.due("weak alone", heartIn("weak 20 p=1"), 0);
            Due.due("below 0", heartIn("weak 21 p=1"), -1);
            Due.due("far below 0", heartIn(times(8, "weak 99 p=1")), 20 - 792);
            Due.due("above", heartIn(times(8, "firm 99 p=1")), 20 + 792);
            Due.due("below 0 on the way", heartIn("weak 99 p=1;firm 99 p=1"), 20);
            Due.due("0 more", heartIn("firm 0 p=1;weak 0 p=1"), 20);
        });
        Doc.says("WIND (5 without), LASH (2 without): the last one's n.", () -> {
            String[] texts = {"firm 1 p=1", "wind 0", "lash 0", "wind 9;wind 8", "lash 9;lash 8", "wind 99;lash 98;wind 1;lash 97", "lash 5;wind 2"};
            long[] wind = {5, 0, 5, 8, 5, 1, 2};
            long[] lash = {2, 2, 0, 2, 8, 97, 5};
            MastLeft none = new MastLeft();
            Due.due("WIND without an OCEAN", none.told(1), 5);
            Due.due("LASH without an OCEAN", none.told(2), 2);
            for (int i = 0; i < texts.length; i++) {
                MastLeft x = new MastLeft();
                Due.due(texts[i], Due.ocean(x, texts[i]), 0);
                Due.due("WIND by " + texts[i], x.told(1), wind[i]);
                Due.due("LASH by " + texts[i], x.told(2), lash[i]);
            }
        });
    }

    /** STRENGTH of a PIECE of a KIND, v and WEAR by so many STAYS in an OCEAN. */
    private static int strength(int kind, int v, int wear, int stays, String text) {
        MastLeft x = Due.one(kind, v, 10, wear);
        x.trim(1, stays);
        Due.due(text, Due.ocean(x, text), 0);
        return x.of(0, 6);
    }

    private static void strength() {
        Doc.says("STRENGTH of a PIECE (0 at least in the end):", () -> {
            Due.due("0", strength(0, 9, 20, 9, "wind 1"), 0);
            Due.due("0, by one", strength(0, 9, 21, 9, "wind 1"), 0);
            Due.due("1", strength(0, 9, 19, 9, "wind 1"), 1);
            Due.due("below 0 on the way: OAR", strength(1, 9, 11, 9, "wind 1"), 0);
            Due.due("below 0 on the way: BOOM", strength(2, 9, 25, 9, "wind 1"), 5);
            Due.due("below 0 on the way: POLE", strength(3, 9, 22, 9, "wind 1"), 7);
            Due.due("below 0 on the way: WIRED", strength(4, 9, 15, 9, "wind 1"), 13);
            Due.due("below 0 in the end: WIRED", strength(4, 9, 99, 9, "wind 1"), 0);
            Due.due("below 0 in the end: CRACKED", strength(5, 9, 16, 9, "wind 1"), 0);
            Due.due("HEART below 0", strength(0, 9, 0, 9, "weak 21 p=0"), 0);
            MastLeft x = Due.one(6, 4, 10, 29);
            x.row(0, 0, 9);
            Due.due("below 0 on the way: TOLD", x.of(0, 6), 4);
        });
        Doc.says("PIECE: HEART less WEAR.", () -> {
            Due.due("27 less 4", strength(0, 3, 4, 2, "firm 7 p=0"), 23);
            Due.due("99 of WEAR", strength(0, 3, 99, 2, "firm 99 p=0"), 20);
        });
        Doc.says("OAR: the half (cut toward 0) of HEART, less WEAR.", () -> {
            Due.due("27: 13, less 4", strength(1, 3, 4, 2, "firm 7 p=0"), 9);
            Due.due("28: 14, less 4", strength(1, 3, 4, 2, "firm 8 p=0"), 10);
            Due.due("-7: -3, and nine STAYS of a WIRED", strength(4, 3, 0, 9, "weak 27 p=0"), 15);
            Due.due("-1: 0, and nine STAYS of a WIRED", strength(4, 3, 0, 9, "weak 21 p=0"), 18);
        });
        Doc.says("BOOM: as PIECE, and 10.", () -> Due.due("27 less 4 and 10", strength(2, 3, 4, 2, "firm 7 p=0"), 33));
        Doc.says("POLE: as PIECE, and v.", () -> {
            Due.due("27 less 4 and 3", strength(3, 3, 4, 2, "firm 7 p=0"), 26);
            Due.due("v 9", strength(3, 9, 4, 2, "firm 7 p=0"), 32);
            Due.due("v 0", strength(3, 0, 4, 2, "firm 7 p=0"), 23);
        });
    }

    private static void strengthOfThoseUnder() {
        Doc.says("WIRED: as OAR, and twice STAYS.", () -> {
            Due.due("27: 13, less 4, and 4", strength(4, 3, 4, 2, "firm 7 p=0"), 13);
            Due.due("no STAYS", strength(4, 3, 4, 0, "firm 7 p=0"), 9);
            Due.due("nine STAYS", strength(4, 3, 4, 9, "firm 7 p=0"), 27);
        });
        Doc.says("CRACKED: as BOOM, and WEAR once more less.", () -> {
            Due.due("27 less 4 and 10 less 4", strength(5, 3, 4, 2, "firm 7 p=0"), 29);
            Due.due("no WEAR", strength(5, 3, 0, 2, "firm 7 p=0"), 37);
            Due.due("1 is left", strength(5, 3, 18, 2, "firm 7 p=0"), 1);
            Due.due("none is left", strength(5, 3, 19, 2, "firm 7 p=0"), 0);
        });
        Doc.says("TOLD: as POLE, and its ROW (four numbers 0 .. 9; 0 at first) at DAY modulo 4 more.", () -> {
            MastLeft x = Due.one(6, 3, 10, 4);
            for (int part = 0; part < 4; part++) {
                Due.due("0 at first", x.row(0, part, 0), 0);
            }
            Due.due("27 less 4 and 3", strength(6, 3, 4, 2, "firm 7 p=0"), 26);
            long[] row = {9, 1, 0, 5};
            for (int part = 0; part < 4; part++) {
                x.row(0, part, (int) row[part]);
            }
            for (int day = 0; day < 9; day++) {
                Due.due("on DAY " + day, x.of(0, 6), 20 - 4 + 3 + row[day % 4]);
                x.pass(1);
            }
            Probe.bounds("row", Probe::some, n -> y -> y.row(1, 1, n), 0, 9, -2);
        });
    }

    private static void aboveAndLoad() {
        Doc.says("ABOVE a PIECE in THE MAST: LENGTH of it and of all upon it, together, less LASH for each that is upon it (0 at least).", () -> {
            MastLeft x = Due.mast(10, 20, 31);
            Due.each("ABOVE", 0, p -> x.of(p, 8), 57, 49, 31);
            Due.ocean(x, "lash 20");
            Due.each("ABOVE by lash 20", 0, p -> x.of(p, 8), 21, 31, 31);
            Due.ocean(x, "lash 31");
            Due.each("ABOVE by lash 31", 0, p -> x.of(p, 8), 0, 20, 31);
            Due.ocean(x, "lash 30");
            Due.each("ABOVE by lash 30", 0, p -> x.of(p, 8), 1, 21, 31);
            Due.ocean(x, "lash 99");
            Due.each("ABOVE by lash 99", 0, p -> x.of(p, 8), 0, 0, 31);
            Due.ocean(x, "lash 0");
            Due.each("ABOVE by lash 0", 0, p -> x.of(p, 8), 61, 51, 31);
        });
        Doc.says("HEIGHT: ABOVE the foot (0: nothing stands).", () -> {
            Due.due("nothing stands", new MastLeft().told(6), 0);
            Due.due("one", Due.mast(99).told(6), 99);
            Due.due("three", Due.mast(10, 20, 31).told(6), 57);
            Due.due("PIECES, but none stands", Due.one(0, 0, 99, 0).told(6), 0);
            Due.due("0 at least", Due.mastIn("lash 40", 10, 29).told(6), 0);
        });
        Doc.says("LOAD of a PIECE in THE MAST: the fifth (cut) of ABOVE it times SAIL, and WIND, less 3 times STAYS (0 at least).", () -> {
            MastLeft x = Due.mast(9, 1);
            Due.due("8 by 1: 1 and 5", x.of(0, 9), 6);
            x.trim(0, 3);
            Due.due("24: 4 and 5", x.of(0, 9), 9);
            Due.due("3: 0 and 5", x.of(1, 9), 5);
            x.trim(0, 0);
            Due.due("0 and 5", x.of(0, 9), 5);
            x.trim(1, 1);
            Due.due("5 less 3", x.of(0, 9), 2);
            x.trim(1, 2);
            Due.due("5 less 6", x.of(0, 9), 0);
            Due.ocean(x, "wind 6");
            Due.due("6 less 6", x.of(0, 9), 0);
            Due.ocean(x, "wind 7");
            Due.due("7 less 6", x.of(0, 9), 1);
            MastLeft most = Due.mastIn("wind 99;lash 0", 99, 99, 99);
            most.trim(0, 9);
            Due.each("the greatest of all", 0, p -> most.of(p, 9), 297 * 9 / 5 + 99, 198 * 9 / 5 + 99, 99 * 9 / 5 + 99);
        });
        Doc.says("MILES: the tenth (cut) of HEIGHT times SAIL.", () -> {
            MastLeft x = Due.mast(35);
            Due.due("35 by 1", x.told(7), 3);
            x.trim(0, 3);
            Due.due("35 by 3", x.told(7), 10);
            x.trim(0, 9);
            Due.due("35 by 9", x.told(7), 31);
            x.trim(0, 0);
            Due.due("35 by 0", x.told(7), 0);
            Due.due("nothing stands", new MastLeft().told(7), 0);
            Due.due("9 by 1", Due.mast(9).told(7), 0);
            Due.due("10 by 1", Due.mast(10).told(7), 1);
        });
    }

    private static void breaks() {
        Doc.says("A DAY goes, by how all is ahead of it.", () -> {
            MastLeft x = Due.mastIn("firm 20 p=0;weak 99 w=1", 50);
            x.set(0, 1, 9);
            Due.due("WEAR 9 ahead of the DAY, 10 behind it", x.pass(1), 5);
            Due.due("it is WEAR 10", x.of(0, 3), 10);
            Due.due("weak on the DAY behind it", x.pass(1), 5);
            Due.due("it broke then", x.of(0, 4), 1);
            x = Due.mastIn("weak 99 d=1", 50);
            Due.due("DAY 0 is not 1", x.pass(1), 5);
            Due.due("DAY 1 is", x.pass(1), 5);
            Due.due("it broke then", x.of(0, 4), 1);
        });
        Doc.says("The first PIECE in THE MAST, from the foot on, whose LOAD is more than its STRENGTH, BREAKS:", () -> {
            MastLeft x = Due.mast(50);
            x.set(0, 1, 5);
            x.pass(1);
            Due.due("15 is not more than 15", x.of(0, 4), 0);
            x = Due.mast(50);
            x.set(0, 1, 6);
            x.pass(1);
            Due.due("15 is more than 14", x.of(0, 4), 1);
            brokeOf("the foot alone", new int[] {20, 0, 0}, 1, 0, 0);
            brokeOf("the middle one alone", new int[] {0, 20, 0}, 0, 1, 0);
            brokeOf("the top alone", new int[] {0, 0, 20}, 0, 0, 1);
            brokeOf("the foot ahead of the top", new int[] {20, 0, 20}, 1, 0, 0);
            brokeOf("the middle one ahead of the top", new int[] {0, 20, 20}, 0, 1, 0);
            brokeOf("all, but the foot ahead", new int[] {20, 20, 20}, 1, 0, 0);
        });
        Doc.says("its LENGTH is the half (cut) of what it was, its WEAR 0, BROKE 1 more;", () -> {
            int[] lengths = {99, 98, 50, 3, 2, 1};
            long[] halves = {49, 49, 25, 1, 1, 0};
            for (int i = 0; i < lengths.length; i++) {
                MastLeft x = Due.mast(lengths[i]);
                x.set(0, 1, 99);
                Due.due("it breaks", x.pass(1), 0);
                Due.due("the half of " + lengths[i], x.of(0, 2), halves[i]);
                Due.due("its WEAR", x.of(0, 3), 0);
                Due.due("BROKE", x.of(0, 4), 1);
            }
        });
        Doc.says("it and all upon it are not in THE MAST any more.", () -> {
            int[] left = {0, 1, 2};
            for (int broken = 0; broken < 3; broken++) {
                MastLeft x = Due.mast(11, 13, 15);
                x.set(broken, 1, 99);
                x.pass(1);
                Due.due("left", x.count(2), left[broken]);
                for (int p = 0; p < 3; p++) {
                    Due.due("place of " + p, x.of(p, 7), p < broken ? p : -5);
                    Due.due("BROKE of " + p, x.of(p, 4), p == broken ? 1 : 0);
                    Due.due("LENGTH of " + p, x.of(p, 2), p == broken ? (11 + 2 * p) / 2 : 11 + 2 * p);
                }
                Due.due("what is left goes no farther on that DAY", x.told(5), 0);
            }
        });
    }

    private static void brokeOf(String name, int[] wear, long... due) {
        MastLeft x = Due.mast(10, 10, 10);
        for (int p = 0; p < 3; p++) {
            x.set(p, 1, wear[p]);
        }
        x.pass(1);
        Due.each(name + ": BROKE", 0, p -> x.of(p, 4), due);
    }

    private static void days() {
        Doc.says("If none BREAKS, WENT is MILES more (99999 at most),", () -> {
            MastLeft x = Due.mast(50);
            Due.due("a DAY", x.pass(1), 5);
            Due.due("two more", x.pass(2), 15);
            Due.due("nothing stands", new MastLeft().pass(60), 0);
            x = Due.mastIn(STRONG, 99, 99, 99);
            x.trim(0, 9);
            for (int i = 1; i <= 6; i++) {
                Due.due("60 DAYS of 263 miles", x.pass(60), i * 60 * 263);
            }
            Due.due("20 more", x.pass(20), 380 * 263);
            Due.due("59 miles are left, of 263", x.pass(1), 99999);
            Due.due("none is left", x.pass(1), 99999);
            x.lower(0);
            Due.due("they stay", x.pass(1), 99999);
            justWithin();
        });
        Doc.says("and WEAR of each in THE MAST is the tenth (cut) of its LOAD more (99 at most).", () -> {
            MastLeft x = Due.mastIn("firm 99 p<9;wind 9;lash 0", 48, 5);
            x.piece(0, 0, 50);
            Due.due("LOAD of the foot", x.of(0, 9), 19);
            Due.due("LOAD of the top", x.of(1, 9), 10);
            x.pass(1);
            Due.each("19: 1, 10: 1, not in it: 0", 0, p -> x.of(p, 3), 1, 1, 0);
            Due.ocean(x, "firm 99 p<9;wind 8;lash 0");
            x.pass(1);
            Due.each("18: 1, 9: 0", 0, p -> x.of(p, 3), 2, 1, 0);
            Due.ocean(x, "firm 99 p<9;wind 10;lash 0");
            x.pass(1);
            Due.each("20: 2, 11: 1", 0, p -> x.of(p, 3), 4, 2, 0);
            x.set(0, 1, 98);
            x.set(1, 1, 98);
            x.pass(1);
            Due.each("99 at most", 0, p -> x.of(p, 3), 99, 99, 0);
            x.pass(1);
            Due.each("99 stays", 0, p -> x.of(p, 3), 99, 99, 0);
        });
        Doc.says("DAY is 1 more.", () -> {
            MastLeft x = Due.mast(50);
            for (int day = 0; day < 12; day++) {
                Due.due("DAY", x.told(0), day);
                x.pass(1);
            }
            Due.due("whether it broke or not", x.of(0, 4), 1);
        });
    }

    /** WENT comes to 99998 and then by 1 mile to 99999: 380 DAYS of 263 miles are 99940, 11 of 5 and 3 of 1 as well. */
    private static void justWithin() {
        MastLeft x = Due.mastIn(STRONG, 99, 99, 99);
        x.trim(0, 9);
        for (int i = 0; i < 7; i++) {
            x.pass(i < 6 ? 60 : 20);
        }
        x.lower(1);
        x.trim(0, 1);
        x.set(0, 0, 50);
        Due.due("11 DAYS of 5", x.pass(11), 99995);
        x.set(0, 0, 10);
        Due.due("3 of 1", x.pass(3), 99998);
        Due.due("and one", x.pass(1), 99999);
        Due.due("and one more", x.pass(1), 99999);
    }
}
