import java.util.function.ToLongFunction;

/** What the tests of promises share: a call's answer against the one that is due, and texts fed sign by sign. */
final class Due {
    private static int wrong;
    private static int looked;
    private static String label = "";

    private Due() {
    }

    /** What is looked at from now on is told under this name, if it is not as due. */
    static void under(String name) {
        label = name.isEmpty() ? "" : "[" + name + "] ";
    }

    static int looked() {
        return looked;
    }

    static void due(String call, long got, long want) {
        looked++;
        if (got != want) {
            wrong++;
            System.out.println(label + call + " answered " + got + ", due is " + want);
        }
    }

    /** The answers of one call for the numbers least, least + 1, and so on. */
    static void each(String call, int least, ToLongFunction<Integer> got, long... want) {
        for (int i = 0; i < want.length; i++) {
            due(call + " for " + (least + i), got.applyAsLong(least + i), want[i]);
        }
    }

    static void feed(MastLeft x, String text) {
        for (int i = 0; i < text.length(); i++) {
            x.feed(text.charAt(i));
        }
    }

    static int ocean(MastLeft x, String text) {
        feed(x, text);
        return x.ocean();
    }

    /** A mast of PIECES (KIND 0) of these LENGTHS, the first the foot. */
    static MastLeft mast(int... lengths) {
        MastLeft x = new MastLeft();
        for (int length : lengths) {
            x.hoist(x.piece(0, 0, length));
        }
        return x;
    }

    /** A mast of so many of these alone. */
    static MastLeft mast(int[] lengths, int many) {
        return mast(java.util.Arrays.copyOf(lengths, many));
    }

    /** The same, and an OCEAN that holds. */
    static MastLeft mastIn(String ocean, int... lengths) {
        MastLeft x = mast(lengths);
        due(ocean, ocean(x, ocean), 0);
        return x;
    }

    /** One PIECE of a KIND, with this v, LENGTH and WEAR, not in THE MAST. */
    static MastLeft one(int kind, int v, int length, int wear) {
        MastLeft x = new MastLeft();
        x.set(x.piece(kind, v, length), 1, wear);
        return x;
    }

    static void end() {
        System.out.println(looked + " answers looked at, " + wrong + " not as due");
        if (wrong != 0) {
            System.exit(1);
        }
    }
}
