/** What the tests of promises share: a call's answer against the one that is due, and texts fed sign by sign. */
final class Due {
    private static int wrong;
    private static int looked;

    private Due() {
    }

    static void due(String call, long got, long want) {
        looked++;
        if (got != want) {
            wrong++;
            System.out.println(call + " answered " + got + ", due is " + want);
        }
    }

    static void feed(MastLeft x, String text) {
        for (int i = 0; i < text.length(); i++) {
            x.feed(text.charAt(i));
        }
    }

    static int ocean(MastLeft x, String text) {
        feed(x, text);
        return x.ocean();
    }

    /** A mast of PIECES (KIND 0) of these LENGTHS, the first the foot. */
    static MastLeft mast(int... lengths) {
        MastLeft x = new MastLeft();
        for (int length : lengths) {
            x.hoist(x.piece(0, 0, length));
        }
        return x;
    }

    static void end() {
        System.out.println(looked + " answers looked at, " + wrong + " not as due");
        if (wrong != 0) {
            System.exit(1);
        }
    }
}
