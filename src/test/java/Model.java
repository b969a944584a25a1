import java.math.BigInteger;
import java.util.ArrayList;
import java.util.List;
import java.util.regex.Matcher;
import java.util.regex.Pattern;

/**
 * The document told a second time, in another way than the class: worlds are copied whole, an OCEAN is its text,
 * the FAULT is found by trying to end what has begun, the ACTS are Java's own, and the host's refusals are the host's.
 */
final class Model {
    static final int NONE = -1, BAD = -2, STATE = -3, FULL = -4, NEVER = -5;
    static final long NO = Long.MIN_VALUE;

    private World world = new World();
    private World image;
    private final List<String> oceans = new ArrayList<>();
    private final StringBuilder text = new StringBuilder();
    private final Object[] tapes = new Object[6];
    private List<Integer> trace = new ArrayList<>();

    // ---- worlds

    private static final class Piece {
        int kind, v, length, wear, broke;
        int[] row = new int[4];

        Piece copy() {
            Piece p = new Piece();
            p.kind = kind;
            p.v = v;
            p.length = length;
            p.wear = wear;
            p.broke = broke;
            p.row = row.clone();
            return p;
        }
    }

    private static final class World {
        List<Piece> pieces = new ArrayList<>();
        List<Integer> mast = new ArrayList<>();
        List<int[]> seen = new ArrayList<>(), plan = new ArrayList<>(), book = new ArrayList<>();
        int sail = 1, stays, day;
        long went;
        String ocean = "";

        World copy() {
            World w = new World();
            for (Piece p : pieces) {
                w.pieces.add(p.copy());
            }
            w.mast.addAll(mast);
            w.seen.addAll(seen);
            w.plan.addAll(plan);
            w.book.addAll(book);
            w.sail = sail;
            w.stays = stays;
            w.day = day;
            w.went = went;
            w.ocean = ocean;
            return w;
        }

        int last(String word, int without) {
            int n = without;
            for (String clause : ocean.split(";")) {
                if (clause.startsWith(word)) {
                    n = Integer.parseInt(clause.substring(5));
                }
            }
            return n;
        }

        int heart(int p) {
            int heart = 20;
            for (String clause : ocean.split(";")) {
                if (!clause.startsWith("firm") && !clause.startsWith("weak")) {
                    continue;
                }
                String[] parts = clause.split(" ");
                if (truth(parts[2], p)) {
                    heart += (clause.startsWith("firm") ? 1 : -1) * Integer.parseInt(parts[1]);
                }
            }
            return heart;
        }

        private boolean truth(String e, int p) {
            for (char join : new char[] {'|', '&'}) {
                int depth = 0;
                for (int i = e.length() - 1; i >= 0; i--) {
                    char c = e.charAt(i);
                    depth += c == ')' ? 1 : c == '(' ? -1 : 0;
                    if (depth == 0 && c == join) {
                        boolean left = truth(e.substring(0, i), p), right = truth(e.substring(i + 1), p);
                        return join == '|' ? left || right : left && right;
                    }
                }
            }
            if (e.charAt(0) == '!') {
                return !truth(e.substring(1), p);
            }
            if (e.charAt(0) == '(') {
                return truth(e.substring(1, e.length() - 1), p);
            }
            Piece q = pieces.get(p);
            int fact;
            switch (e.charAt(0)) {
                case 'p': fact = p; break;
                case 'k': fact = q.kind; break;
                case 'v': fact = q.v; break;
                case 'l': fact = q.length / 10; break;
                case 'w': fact = q.wear / 10; break;
                default: fact = day % 10; break;
            }
            int sign = Integer.signum(Integer.compare(fact, Integer.parseInt(e.substring(2))));
            return sign == "<=>".indexOf(e.charAt(1)) - 1;
        }

        int strength(int p) {
            return Math.max(0, strengthAs(pieces.get(p).kind, p));
        }

        private int strengthAs(int kind, int p) {
            Piece q = pieces.get(p);
            switch (kind) {
                case 1: return heart(p) / 2 - q.wear;
                case 2: return strengthAs(0, p) + 10;
                case 3: return strengthAs(0, p) + q.v;
                case 4: return strengthAs(1, p) + stays + stays;
                case 5: return strengthAs(2, p) - q.wear;
                case 6: return strengthAs(3, p) + q.row[day & 3];
                default: return heart(p) - q.wear;
            }
        }

        int aboveFrom(int place) {
            int feet = 0;
            for (int i = mast.size() - 1; i >= place; i--) {
                feet += pieces.get(mast.get(i)).length - (i > place ? last("lash", 2) : 0);
            }
            return Math.max(feet, 0);
        }

        int tall() {
            return mast.isEmpty() ? 0 : aboveFrom(0);
        }

        int bears(int place) {
            return Math.max(0, (int) Math.floor(aboveFrom(place) * sail / 5.0) + last("wind", 5) - stays * 3);
        }

        int miles() {
            return tall() * sail / 10;
        }

        int breaking() {
            for (int i = 0; i < mast.size(); i++) {
                if (bears(i) > strength(mast.get(i))) {
                    return i;
                }
            }
            return -1;
        }

        /** One DAY; the PIECE that breaks, or -1. */
        int live() {
            World ahead = copy();
            int broken = ahead.breaking();
            day++;
            if (broken < 0) {
                went += ahead.miles();
                for (int i = 0; i < mast.size(); i++) {
                    Piece q = pieces.get(mast.get(i));
                    q.wear = Math.min(99, q.wear + ahead.bears(i) / 10);
                }
                return -1;
            }
            int p = mast.get(broken);
            pieces.get(p).length /= 2;
            pieces.get(p).wear = 0;
            pieces.get(p).broke++;
            mast = new ArrayList<>(mast.subList(0, broken));
            return p;
        }

        World after(int days) {
            World w = copy();
            for (int i = 0; i < days; i++) {
                w.live();
            }
            return w;
        }

        /** The number of the first DAY on which something breaks and what; null within so many DAYS. */
        int[] firstBreak(int days) {
            World w = copy();
            for (int i = 0; i < days; i++) {
                int p = w.live();
                if (p >= 0) {
                    return new int[] {i, p};
                }
            }
            return null;
        }

        boolean seenSo() {
            for (int[] s : seen) {
                if (after(s[1]).mast.size() != s[0]) {
                    return false;
                }
            }
            return true;
        }
    }

    // ---- reading

    private static final Pattern REST = Pattern.compile("!([0-8])|\\(([0-8])(?:[|&][0-8])*\\)");

    /** Whether an E is one: tests become 0, what stands in ( or ! is one higher than what it holds. */
    private static boolean isEither(String e) {
        String s = e.replaceAll("[0-9]", "#").replaceAll("[pkvlwd][<=>]##?", "0");
        if (s.contains("#")) {
            return false;
        }
        for (int i = 0; i < 100; i++) {
            Matcher m = REST.matcher(s);
            if (!m.find()) {
                break;
            }
            int high = 0;
            for (char c : m.group().toCharArray()) {
                high = c >= '0' && c <= '8' ? Math.max(high, c - '0') : high;
            }
            s = s.substring(0, m.start()) + (high + 1) + s.substring(m.end());
        }
        return s.matches("[0-4]([|&][0-4])*");
    }

    static boolean isOcean(String s) {
        String[] clauses = s.split(";", -1);
        if (clauses.length > 10) {
            return false;
        }
        for (String c : clauses) {
            Matcher m = Pattern.compile("(?:firm|weak) [0-9]{1,2} (.+)").matcher(c);
            if (!c.matches("(?:wind|lash) [0-9]{1,2}") && !(m.matches() && isEither(m.group(1)))) {
                return false;
            }
        }
        return true;
    }

    private static boolean begins(String s) {
        for (String whole : new String[] {"firm 1 p=1", "weak 1 p=1", "wind 1", "lash 1"}) {
            for (int from = 0; from <= whole.length(); from++) {
                for (int close = 0; close <= 4; close++) {
                    if (isOcean(s + whole.substring(from) + "))))".substring(0, close))) {
                        return true;
                    }
                }
            }
        }
        return false;
    }

    static int fault(String s) {
        for (int i = 0; i < s.length(); i++) {
            if (!begins(s.substring(0, i + 1))) {
                return i;
            }
        }
        return s.length();
    }

    // ---- pieces, oceans, the mast

    private boolean has(int p) {
        return p >= 0 && p < world.pieces.size();
    }

    private static boolean in(int n, int a, int b) {
        return a <= n && n <= b;
    }

    int piece(int kind, int v, int length) {
        if (!in(kind, 0, 6)) return NONE;
        if (!in(v, 0, 9) || !in(length, 1, 99)) return BAD;
        if (world.pieces.size() == 6) return FULL;
        Piece p = new Piece();
        p.kind = kind;
        p.v = v;
        p.length = length;
        world.pieces.add(p);
        return world.pieces.size() - 1;
    }

    int of(int piece, int what) {
        if (!has(piece) || !in(what, 0, 9)) return -1001;
        Piece p = world.pieces.get(piece);
        int place = world.mast.indexOf(piece);
        switch (what) {
            case 0: return p.kind;
            case 1: return p.v;
            case 2: return p.length;
            case 3: return p.wear;
            case 4: return p.broke;
            case 5: return world.heart(piece);
            case 6: return world.strength(piece);
            case 7: return place < 0 ? NEVER : place;
            case 8: return place < 0 ? NEVER : world.aboveFrom(place);
            default: return place < 0 ? NEVER : world.bears(place);
        }
    }

    int set(int piece, int what, int n) {
        if (!has(piece) || !in(what, 0, 1)) return NONE;
        if (!in(n, 0, 99)) return BAD;
        Piece p = world.pieces.get(piece);
        int was = what == 0 ? p.length : p.wear;
        if (what == 0) p.length = n;
        else p.wear = n;
        return was;
    }

    int row(int piece, int part, int n) {
        if (!has(piece) || !in(part, 0, 3)) return NONE;
        if (!in(n, 0, 9)) return BAD;
        Piece p = world.pieces.get(piece);
        if (p.kind != 6) return STATE;
        int was = p.row[part];
        p.row[part] = n;
        return was;
    }

    int hoist(int piece) {
        if (!has(piece)) return NONE;
        if (world.mast.contains(piece)) return STATE;
        if (world.mast.size() == 3) return FULL;
        world.mast.add(piece);
        return world.mast.size();
    }

    int lower(int piece) {
        if (!has(piece)) return NONE;
        if (!world.mast.contains(piece)) return STATE;
        while (world.mast.remove(world.mast.size() - 1) != piece) {
            continue;
        }
        return world.mast.size();
    }

    int trim(int what, int n) {
        if (!in(what, 0, 1)) return NONE;
        if (!in(n, 0, 9)) return BAD;
        int was = what == 0 ? world.sail : world.stays;
        if (what == 0) world.sail = n;
        else world.stays = n;
        return was;
    }

    int feed(int sign) {
        if (!in(sign, 0, 127)) return BAD;
        if (text.length() == 100) return FULL;
        text.append((char) sign);
        return text.length();
    }

    int ocean() {
        if (oceans.size() == 6) return FULL;
        String s = text.toString();
        text.setLength(0);
        if (!isOcean(s)) return -10 - fault(s);
        oceans.add(s);
        world.ocean = s;
        return oceans.size() - 1;
    }

    int told(int what) {
        switch (what) {
            case 0: return world.day;
            case 1: return world.last("wind", 5);
            case 2: return world.last("lash", 2);
            case 3: return world.sail;
            case 4: return world.stays;
            case 5: return (int) world.went;
            case 6: return world.tall();
            case 7: return world.miles();
            case 10: case 11: case 12: return what - 10 < world.mast.size() ? world.mast.get(what - 10) : NONE;
            default: return NONE;
        }
    }

    // ---- days

    int pass(int n) {
        if (!in(n, 0, 60)) return BAD;
        if (world.day + n > 9999) return STATE;
        for (int i = 0; i < n; i++) {
            world.live();
            world.went = Math.min(99999, world.went);
        }
        return (int) world.went;
    }

    int on(int n, int what) {
        if (!in(what, 0, 2) && !(in(what, 10, 15) && has(what - 10)) && !(in(what, 20, 25) && has(what - 20))) return NONE;
        if (!in(n, 0, 60)) return BAD;
        World w = world.after(n);
        if (what == 0) return (int) (w.went - world.went);
        if (what == 1) return w.tall();
        if (what == 2) return w.mast.size();
        return what < 20 ? w.pieces.get(what - 10).length : w.pieces.get(what - 20).wear;
    }

    int first(int what) {
        if (!in(what, 0, 1)) return NONE;
        int[] f = world.firstBreak(61);
        return f == null ? NEVER : f[what];
    }

    int port(int m) {
        if (!in(m, 0, 9999)) return BAD;
        World w = world.copy();
        for (int i = 0; i <= 99; i++) {
            if (w.went - world.went >= m) return i;
            w.live();
        }
        return NEVER;
    }

    // ---- what is best

    int spread() {
        int best = -1;
        long most = 0;
        for (int s = 9; s >= 0; s--) {
            World w = world.copy();
            w.sail = s;
            long far = w.after(30).went - world.went;
            if (best < 0 || far >= most) {
                best = s;
                most = far;
            }
        }
        return best;
    }

    int fewest(int n) {
        if (!in(n, 1, 30)) return BAD;
        int least = NEVER;
        for (int s = 9; s >= 0; s--) {
            World w = world.copy();
            w.stays = s;
            if (w.firstBreak(n) == null) {
                least = s;
            }
        }
        return least;
    }

    private void rows(List<Integer> begun, List<List<Integer>> all) {
        for (int p = 0; p < world.pieces.size(); p++) {
            if (!begun.contains(p) && begun.size() < 3) {
                List<Integer> longer = new ArrayList<>(begun);
                longer.add(p);
                all.add(longer);
                rows(longer, all);
            }
        }
    }

    int best(int what, int k) {
        if (!in(what, 0, 1) || !in(k, 0, 3)) return NONE;
        List<List<Integer>> all = new ArrayList<>();
        rows(new ArrayList<>(), all);
        List<Integer> best = null;
        long most = 0;
        for (List<Integer> r : all) {
            World w = world.copy();
            w.mast = new ArrayList<>(r);
            long much = what == 0 ? w.after(10).went - world.went : w.tall();
            boolean may = what == 0 || w.breaking() < 0;
            if (may && (best == null || much > most)) {
                best = r;
                most = much;
            }
        }
        if (best == null) return NEVER;
        return k == 3 ? (int) most : k < best.size() ? best.get(k) : NEVER;
    }

    int longest(int k) {
        if (!in(k, 0, 3)) return NONE;
        List<List<Integer>> all = new ArrayList<>();
        rows(new ArrayList<>(), all);
        List<Integer> best = new ArrayList<>();
        int latest = -1;
        for (List<Integer> r : all) {
            if (r.size() == world.mast.size() && r.containsAll(world.mast)) {
                World w = world.copy();
                w.mast = new ArrayList<>(r);
                int[] f = w.firstBreak(61);
                int day = f == null ? 1000 : f[0];
                if (day > latest) {
                    best = r;
                    latest = day;
                }
            }
        }
        if (k == 3) return latest < 0 || latest == 1000 ? NEVER : latest;
        return k < best.size() ? best.get(k) : NEVER;
    }

    // ---- seen, odds

    int see(int many, int n) {
        if (many == -1) {
            world.seen.clear();
            return 0;
        }
        if (!in(many, 0, 3) || !in(n, 0, 20)) return BAD;
        if (world.seen.size() == 5) return FULL;
        world.seen.add(new int[] {many, n});
        return world.seen.size();
    }

    private int fits(int piece, int what, boolean byWear) {
        List<Integer> fit = new ArrayList<>();
        for (int n = 0; n <= (byWear ? 60 : 9); n++) {
            World w = world.copy();
            if (byWear) w.pieces.get(piece).wear = n;
            else w.pieces.get(piece).v = n;
            if (w.seenSo()) {
                fit.add(n);
            }
        }
        return what == 0 ? fit.size() : fit.isEmpty() ? NEVER : fit.get(0);
    }

    int worn(int piece, int what) {
        return has(piece) && in(what, 0, 1) ? fits(piece, what, true) : NONE;
    }

    int can(int piece, int what) {
        return has(piece) && in(what, 0, 1) ? fits(piece, what, false) : NONE;
    }

    private static long fraction(long above, long below, int part) {
        BigInteger a = BigInteger.valueOf(above), b = BigInteger.valueOf(below);
        return (part == 0 ? a : b).divide(a.gcd(b)).longValue();
    }

    long odds(int n, int part) {
        if (!in(n, 0, 60) || !in(part, 0, 1) || world.mast.isEmpty()) return NO;
        int well = 0;
        for (int lost : world.mast) {
            World w = world.copy();
            w.mast = new ArrayList<>(w.mast.subList(0, w.mast.indexOf(lost)));
            well += w.firstBreak(n) == null ? 1 : 0;
        }
        return fraction(well, world.mast.size(), part);
    }

    long mean(int part) {
        if (!in(part, 0, 1) || world.mast.isEmpty()) return NO;
        int all = 0;
        for (int i = 0; i < world.mast.size(); i++) {
            all += world.bears(i);
        }
        return fraction(all, world.mast.size(), part);
    }

    // ---- plans, books

    int plan(int what, int n) {
        if (what == -1) {
            world.plan.clear();
            return 0;
        }
        if (!in(what, 0, 4) || what == 3 && !has(n)) return NONE;
        if (in(what, 1, 2) && !in(n, 0, 9)) return BAD;
        if (world.plan.size() == 10) return FULL;
        world.plan.add(new int[] {what, n});
        return world.plan.size();
    }

    int ends(int what) {
        if (!in(what, 0, 1)) return NONE;
        World w = world.copy();
        for (int[] r : world.plan) {
            if (r[0] == 0) w.live();
            if (r[0] == 1) w.sail = r[1];
            if (r[0] == 2) w.stays = r[1];
            if (r[0] == 3 && w.mast.size() < 3 && !w.mast.contains(r[1])) w.mast.add(r[1]);
            if (r[0] == 4) w.mast.clear();
        }
        return what == 0 ? (int) (w.went - world.went) : w.tall();
    }

    int book(int piece, int length) {
        if (piece == -1) {
            world.book.clear();
            return 0;
        }
        if (!has(piece)) return NONE;
        if (!in(length, 0, 99)) return BAD;
        if (world.book.size() == 8) return FULL;
        world.book.add(new int[] {piece, length});
        return world.book.size();
    }

    int looked() {
        for (int i = 0; i < world.book.size(); i++) {
            int[] r = world.book.get(i);
            if (world.pieces.get(r[0]).length != r[1]) return i;
        }
        return NEVER;
    }

    // ---- judging, the image, acts, tapes

    int judge(int tape, int i) {
        if (!in(tape, 0, 5)) return NONE;
        if (tapes[tape] != null && !(tapes[tape] instanceof byte[])) return -12;
        byte[] bytes = (byte[]) tapes[tape];
        int looked = 0;
        try {
            for (Piece p : world.pieces) {
                if (bytes[Math.addExact(i, looked)] != p.length) return looked;
                looked++;
            }
        } catch (RuntimeException host) {
            return 100 + looked;
        }
        return NEVER;
    }

    int image() {
        image = world.copy();
        return world.pieces.size();
    }

    int undo() {
        if (image == null) return STATE;
        world = image.copy();
        return world.pieces.size();
    }

    private static class Spar {
        int i, v;
        List<Integer> ran;

        int bends(int x) { ran.add(10); return x + i; }
        int holds(int x) { ran.add(11); return bends(x) - v; }
        int tells(int x) { ran.add(12); return holds(x) * 2; }
    }

    private static class Oar extends Spar {
        @Override int holds(int x) { ran.add(20); return super.holds(x) ^ 6; }
    }

    private static class Boom extends Spar {
        @Override int bends(int x) { ran.add(30); return super.bends(x * 3); }
    }

    private static class Pole extends Spar {
        @Override int tells(int x) { ran.add(40); return super.tells(x) + holds(1); }
    }

    private static class Wired extends Oar {
        @Override int bends(int x) { ran.add(50); return -super.bends(x); }
        @Override int holds(int x) { ran.add(51); return super.holds(x + 1); }
    }

    private static class Cracked extends Boom {
        @Override int tells(int x) { ran.add(60); return super.tells(x - i); }
    }

    private static class Told extends Pole {
        @Override int holds(int x) { ran.add(70); return super.holds(x) + super.bends(2); }
        @Override int bends(int x) { ran.add(71); return super.bends(x) ^ v; }
    }

    private static Spar made(int kind) {
        switch (kind) {
            case 1: return new Oar();
            case 2: return new Boom();
            case 3: return new Pole();
            case 4: return new Wired();
            case 5: return new Cracked();
            case 6: return new Told();
            default: return new Spar();
        }
    }

    int act(int piece, int act, int x) {
        trace = new ArrayList<>();
        if (!has(piece) || !in(act, 0, 2)) return 0;
        Spar s = made(world.pieces.get(piece).kind);
        s.i = piece;
        s.v = world.pieces.get(piece).v;
        s.ran = trace;
        return act == 0 ? s.bends(x) : act == 1 ? s.holds(x) : s.tells(x);
    }

    int trace(int i) {
        return i >= 0 && i < Math.min(20, trace.size()) ? trace.get(i) : NONE;
    }

    int taken(int piece, int k) {
        if (!in(k, 0, 6)) return BAD;
        if (!has(piece)) return -11;
        int kind = world.pieces.get(piece).kind;
        return made(k).getClass().isInstance(made(kind)) ? kind : -12;
    }

    int count(int what) {
        int[] all = {world.pieces.size(), oceans.size(), world.mast.size(), world.seen.size(), world.plan.size(),
            world.book.size(), text.length(), trace.size()};
        return what >= 0 && what < all.length ? all[what] : BAD;
    }

    int tape(int tape, int sort, int n) {
        if (!in(tape, 0, 5)) return NONE;
        if (sort == -1) {
            tapes[tape] = null;
            return 1;
        }
        if (!in(sort, 0, 4) || n > 60) return BAD;
        try {
            tapes[tape] = sort == 0 ? new byte[n] : sort == 1 ? new short[n] : sort == 2 ? new int[n]
                : sort == 3 ? new long[n] : new boolean[n];
        } catch (NegativeArraySizeException host) {
            return -14;
        }
        return 1;
    }

    int item(int tape, int i, long v) {
        if (!in(tape, 0, 5)) return NONE;
        if (tapes[tape] == null) return -11;
        try {
            if (tapes[tape] instanceof byte[] b) b[i] = (byte) v;
            if (tapes[tape] instanceof short[] b) b[i] = (short) v;
            if (tapes[tape] instanceof int[] b) b[i] = (int) v;
            if (tapes[tape] instanceof long[] b) b[i] = v;
            if (tapes[tape] instanceof boolean[] b) b[i] = v != 0;
        } catch (ArrayIndexOutOfBoundsException host) {
            return -13;
        }
        return 1;
    }

    long read(int tape, int i) {
        if (!in(tape, 0, 5)) return NO;
        try {
            if (tapes[tape] instanceof byte[] b) return b[i];
            if (tapes[tape] instanceof short[] b) return b[i];
            if (tapes[tape] instanceof int[] b) return b[i];
            if (tapes[tape] instanceof long[] b) return b[i];
            if (tapes[tape] instanceof boolean[] b) return b[i] ? 1 : 0;
        } catch (ArrayIndexOutOfBoundsException host) {
            return NO;
        }
        return NO;
    }

    @SuppressWarnings("SuspiciousSystemArraycopy")
    int shift(int tape, int i, int other, int j, int n) {
        if (!in(tape, 0, 5) || !in(other, 0, 5)) return NONE;
        try {
            System.arraycopy(tapes[tape], i, tapes[other], j, n);
        } catch (NullPointerException host) {
            return -11;
        } catch (ArrayStoreException host) {
            return -12;
        } catch (IndexOutOfBoundsException host) {
            return -13;
        }
        return n;
    }
}
