/** Random runs of 512 calls on the class and on the Model: every answer is the same. */
public final class RandomRunsTest {
    private static final int RUNS = 400, CALLS = 512;
    private static final int[] WILD = {-2, -1, 7, 10, 21, 61, 100, 128, Integer.MIN_VALUE, Integer.MAX_VALUE};

    private final MastLeft mast = new MastLeft();
    private final Model model = new Model();
    private final StringBuilder calls = new StringBuilder();
    private long seed;
    private long got, want;

    private RandomRunsTest(long seed) {
        this.seed = seed;
    }

    private int below(int n) {
        seed = seed * 6364136223846793005L + 1442695040888963407L;
        return (int) ((seed >>> 33) % n);
    }

    /** Mostly a number from least on, so many of them, now and then a wild one. */
    private int some(int least, int many) {
        return below(25) == 0 ? WILD[below(WILD.length)] : least + below(many);
    }

    private String either(int depth) {
        StringBuilder s = new StringBuilder(single(depth));
        for (int i = below(3); i > 0; i--) {
            s.append(below(2) == 0 ? '&' : '|').append(single(depth));
        }
        return s.toString();
    }

    private String single(int depth) {
        int form = below(6);
        if (form == 0 && depth < 5) {
            return "!" + single(depth + 1);
        }
        if (form == 1 && depth < 5) {
            return "(" + either(depth + 1) + ")";
        }
        return "pkvlwd".charAt(below(6)) + "" + "<=>".charAt(below(3)) + below(below(5) == 0 ? 30 : 7);
    }

    private String clause() {
        int n = below(3) == 0 ? below(100) : below(12);
        switch (below(5)) {
            case 0: return "wind " + n;
            case 1: return "lash " + n;
            case 2: return "weak " + n + " " + either(0);
            default: return "firm " + (below(3) == 0 ? 99 : n) + " " + either(0);
        }
    }

    private String oceanText() {
        StringBuilder s = new StringBuilder(clause());
        for (int i = below(below(10) == 0 ? 12 : 5); i > 0; i--) {
            s.append(';').append(below(10) == 0 ? "wind 9" : clause());
        }
        int spoilt = below(3) == 0 ? below(3) : 0;
        for (int i = 0; i < spoilt; i++) {
            int at = below(s.length());
            switch (below(3)) {
                case 0: s.setCharAt(at, "firmweaklash ;()!&|<=>pkvlwd0123456789".charAt(below(38))); break;
                case 1: s.deleteCharAt(at); break;
                default: s.setLength(at + 1); break;
            }
            if (s.length() == 0) {
                s.append('f');
            }
        }
        return s.toString();
    }

    private boolean alike(String call, long gotten, long wanted) {
        calls.append(call).append(" -> ").append(gotten).append('\n');
        got = gotten;
        want = wanted;
        return got == want;
    }

    private boolean pieceCall() {
        int a = some(0, 6), b = some(0, 10), c = some(1, 60);
        switch (below(10)) {
            case 0: return alike("piece " + b + " " + b + " " + c, mast.piece(b % 7, b, c), model.piece(b % 7, b, c));
            case 1: return alike("of " + a + " " + b, mast.of(a, b), model.of(a, b));
            case 2: b = some(0, 2); return alike("set " + a + " " + b + " " + c, mast.set(a, b, c), model.set(a, b, c));
            case 3: b = some(0, 4); c = some(0, 10);
                return alike("row " + a + " " + b + " " + c, mast.row(a, b, c), model.row(a, b, c));
            case 4: case 5: case 6: return alike("hoist " + a, mast.hoist(a), model.hoist(a));
            case 7: a = below(3) == 0 ? a : 99; return alike("lower " + a, mast.lower(a), model.lower(a));
            case 8: c = some(0, 2); return alike("trim " + c + " " + b, mast.trim(c, b), model.trim(c, b));
            default: b = some(0, 14); return alike("told " + b, mast.told(b), model.told(b));
        }
    }

    private boolean dayCall() {
        int n = some(0, 61), k = some(0, 3);
        switch (below(9)) {
            case 0: case 1: n = below(2) == 0 ? n : below(4); return alike("pass " + n, mast.pass(n), model.pass(n));
            case 2: k = below(2) == 0 ? k : some(10, 16); return alike("on " + n + " " + k, mast.on(n, k), model.on(n, k));
            case 3: return alike("first " + k, mast.first(k), model.first(k));
            case 4: n = below(2) == 0 ? n : some(0, 9999); return alike("port " + n, mast.port(n), model.port(n));
            case 5: return alike("spread", mast.spread(), model.spread());
            case 6: n = some(1, 30); return alike("fewest " + n, mast.fewest(n), model.fewest(n));
            case 7: n = below(3) > 0 ? below(2) : n; k = some(0, 4);
                return alike("best " + n + " " + k, mast.best(n, k), model.best(n, k));
            default: k = some(0, 4); return alike("longest " + k, mast.longest(k), model.longest(k));
        }
    }

    private boolean seenCall() {
        int p = some(0, 6), k = some(0, 2), n = some(0, 21);
        switch (below(11)) {
            case 0: p = below(5) == 0 ? -1 : below(3) == 0 ? some(0, 4) : Math.max(0, mast.on(n, 2));
                return alike("see " + p + " " + n, mast.see(p, n), model.see(p, n));
            case 1: return alike("worn " + p + " " + k, mast.worn(p, k), model.worn(p, k));
            case 2: return alike("can " + p + " " + k, mast.can(p, k), model.can(p, k));
            case 3: n = some(0, 61); return alike("odds " + n + " " + k, mast.odds(n, k), model.odds(n, k));
            case 4: return alike("mean " + k, mast.mean(k), model.mean(k));
            case 5: case 6: case 7: k = below(12) == 0 ? -1 : some(0, 5); n = some(0, 8);
                return alike("plan " + k + " " + n, mast.plan(k, n), model.plan(k, n));
            case 8: return alike("ends " + k, mast.ends(k), model.ends(k));
            case 9: p = below(9) == 0 ? -1 : p; n = below(3) == 0 ? n : Math.max(0, mast.of(p, 2));
                return alike("book " + p + " " + n, mast.book(p, n), model.book(p, n));
            default: return alike("looked", mast.looked(), model.looked());
        }
    }

    private boolean hostCall() {
        int a = some(0, 6), b = some(0, 5), i = some(0, 8), j = some(0, 8), n = some(0, 6);
        long v = below(3) == 0 ? Math.max(0, mast.of(below(6), 2)) : below(4) == 0 ? seed : below(300) - 100;
        switch (below(14)) {
            case 0: case 1: b = below(2); return alike("judge " + b + " " + i, mast.judge(b, i), model.judge(b, i));
            case 2: return alike("image", mast.image(), model.image());
            case 3: return alike("undo", mast.undo(), model.undo());
            case 4: b = some(0, 3); return alike("act " + a + " " + b + " " + v, mast.act(a, b, (int) v), model.act(a, b, (int) v));
            case 5: return alike("trace " + i, mast.trace(i), model.trace(i));
            case 6: b = some(0, 7); return alike("taken " + a + " " + b, mast.taken(a, b), model.taken(a, b));
            case 7: return alike("count " + i, mast.count(i), model.count(i));
            case 8: b = below(2) == 0 ? 0 : some(-1, 6); return alike("tape " + a + " " + b + " " + i, mast.tape(a, b, i), model.tape(a, b, i));
            case 9: case 10: case 11: a = below(2);
                return alike("item " + a + " " + i + " " + v, mast.item(a, i, v), model.item(a, i, v));
            case 12: return alike("read " + a + " " + i, mast.read(a, i), model.read(a, i));
            default: b = some(0, 6); return alike("shift " + a + " " + i + " " + b + " " + j + " " + n,
                mast.shift(a, i, b, j, n), model.shift(a, i, b, j, n));
        }
    }

    /** Every LENGTH as a row of bytes, so that JUDGED comes further than the first. */
    private boolean lengthsTold() {
        boolean so = alike("tape 0 0 8", mast.tape(0, 0, 8), model.tape(0, 0, 8));
        int off = below(2);
        for (int p = 0; p < 6 && so; p++) {
            int feet = Math.max(0, mast.of(p, 2)) + (below(12) == 0 ? 1 : 0);
            so = alike("item 0 " + (p + off) + " " + feet, mast.item(0, p + off, feet), model.item(0, p + off, feet));
        }
        return so && alike("judge 0 " + off, mast.judge(0, off), model.judge(0, off));
    }

    private boolean oceanCalls() {
        boolean so = true;
        String s = oceanText();
        for (int i = 0; i < s.length() && so; i++) {
            so = alike("feed " + s.charAt(i), mast.feed(s.charAt(i)), model.feed(s.charAt(i)));
        }
        return so && alike("ocean " + s, mast.ocean(), model.ocean());
    }

    private boolean call(int number) {
        if (number < 6) {
            int kind = below(7), v = below(10), length = 1 + below(60);
            return alike("piece " + kind + " " + v + " " + length, mast.piece(kind, v, length), model.piece(kind, v, length));
        }
        int form = below(40);
        if (form == 0) {
            return oceanCalls();
        }
        if (form == 1) {
            return lengthsTold();
        }
        if (form == 2) {
            int sign = some(0, 128);
            return alike("feed " + sign, mast.feed(sign), model.feed(sign));
        }
        return form < 16 ? pieceCall() : form < 25 ? dayCall() : form < 33 ? seenCall() : hostCall();
    }

    public static void main(String[] args) {
        int runs = args.length > 2 ? Integer.parseInt(args[2]) : RUNS;
        for (int run = 0; run < runs; run++) {
            RandomRunsTest r = new RandomRunsTest(run * 7919L + 17);
            boolean bare = run % 4 == 0;
            for (int i = bare ? 6 : 0; i < CALLS; i++) {
                if (!r.call(i)) {
                    System.out.print(r.calls);
                    System.out.println("run " + run + ": due is " + r.want + ", answered was " + r.got);
                    System.exit(1);
                }
            }
        }
        System.out.println(runs + " random runs answered as the model does");
    }
}
