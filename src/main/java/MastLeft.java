/**
 * A mast out of what is left, the days that it stands, and what may be asked of both.
 * What a call answers and changes is told by the document's promises, which this file does not repeat.
 *
 * Nothing is made after the constructor: all that a call needs to try something out stands ready in rows.
 */
public final class MastLeft {
    public static final int NONE = -1, BAD = -2, STATE = -3, FULL = -4;
    public static final long NO = Long.MIN_VALUE;

    /** The host's refusals. */
    private static final int NOTHING = -11, CAST = -12, PLACE = -13, SIZE = -14;
    /** A question that is well put has no such answer. */
    private static final int NEVER = -5;
    /** No such fact of a PIECE: HEART may be as low as -1, so NONE would not tell. */
    private static final int NO_FACT = -1001;

    private static final int MOST_PIECES = 6, MOST_IN_MAST = 3, MOST_OCEANS = 6, MOST_TAPES = 6;
    private static final int KINDS = 7, OAR = 1, BOOM = 2, POLE = 3, WIRED = 4, CRACKED = 5, TOLD = 6;
    /** Which KIND each KIND is under. */
    private static final int[] KIND_ABOVE = {-1, 0, 0, 0, 1, 2, 3};
    private static final int LAST_DAY = 9999, LAST_MILE = 99999, FIRST_WITHIN = 60;

    /** What a row of PIECES may be best by. */
    private static final int FARTHEST = 0, HIGHEST = 1, LONGEST = 2;

    /** What is done by a row of the PLAN. */
    private static final int PLAN_DAY = 0, PLAN_SAIL = 1, PLAN_STAYS = 2, PLAN_HOIST = 3, PLAN_DOWN = 4;

    private final Deck now, kept, trial;
    private final Pairs seen, plans, books, keptSeen, keptPlans, keptBooks;
    private boolean imaged;
    private final Ocean[] oceans;
    private int oceansRead;
    private final Text text;
    private final Acts acts;
    private final Tape[] tapes;

    public MastLeft() {
        Ocean calm = new Ocean();
        now = new Deck(calm);
        kept = new Deck(calm);
        trial = new Deck(calm);
        seen = new Pairs(5);
        plans = new Pairs(10);
        books = new Pairs(8);
        keptSeen = new Pairs(5);
        keptPlans = new Pairs(10);
        keptBooks = new Pairs(8);
        oceans = new Ocean[MOST_OCEANS];
        for (int i = 0; i < MOST_OCEANS; i++) {
            oceans[i] = new Ocean();
        }
        text = new Text();
        acts = new Acts();
        tapes = new Tape[MOST_TAPES];
        for (int i = 0; i < MOST_TAPES; i++) {
            tapes[i] = new Tape();
        }
    }

    // ---- pieces, oceans, the mast

    public int piece(int kind, int v, int length) {
        if (!within(kind, 0, KINDS - 1)) {
            return NONE;
        }
        if (!within(v, 0, 9) || !within(length, 1, 99)) {
            return BAD;
        }
        if (now.pieces >= MOST_PIECES) {
            return FULL;
        }
        return now.take(kind, v, length);
    }

    public int of(int piece, int what) {
        if (!now.has(piece) || !within(what, 0, 9)) {
            return NO_FACT;
        }
        switch (what) {
            case 0: return now.kind[piece];
            case 1: return now.v[piece];
            case 2: return now.length[piece];
            case 3: return now.wear[piece];
            case 4: return now.broke[piece];
            case 5: return now.ocean.heart(now, piece);
            case 6: return now.strength(piece);
            default: break;
        }
        int place = now.placeOf(piece);
        if (place < 0) {
            return NEVER;
        }
        return what == 7 ? place : what == 8 ? now.above(place) : now.load(place);
    }

    public int set(int piece, int what, int n) {
        if (!now.has(piece) || !within(what, 0, 1)) {
            return NONE;
        }
        if (!within(n, 0, 99)) {
            return BAD;
        }
        int[] facts = what == 0 ? now.length : now.wear;
        int was = facts[piece];
        facts[piece] = n;
        return was;
    }

    public int row(int piece, int part, int n) {
        if (!now.has(piece) || !within(part, 0, 3)) {
            return NONE;
        }
        if (!within(n, 0, 9)) {
            return BAD;
        }
        if (now.kind[piece] != TOLD) {
            return STATE;
        }
        int was = now.rows[4 * piece + part];
        now.rows[4 * piece + part] = n;
        return was;
    }

    public int hoist(int piece) {
        if (!now.has(piece)) {
            return NONE;
        }
        if (now.placeOf(piece) >= 0) {
            return STATE;
        }
        if (now.stands >= MOST_IN_MAST) {
            return FULL;
        }
        now.putUpon(piece);
        return now.stands;
    }

    public int lower(int piece) {
        if (!now.has(piece)) {
            return NONE;
        }
        int place = now.placeOf(piece);
        if (place < 0) {
            return STATE;
        }
        now.stands = place;
        return place;
    }

    public int trim(int what, int n) {
        if (!within(what, 0, 1)) {
            return NONE;
        }
        if (!within(n, 0, 9)) {
            return BAD;
        }
        int was = what == 0 ? now.sail : now.stays;
        if (what == 0) {
            now.sail = n;
        } else {
            now.stays = n;
        }
        return was;
    }

    public int feed(int sign) {
        if (!within(sign, 0, 127)) {
            return BAD;
        }
        return text.add((byte) sign) ? text.size : FULL;
    }

    public int ocean() {
        if (oceansRead >= MOST_OCEANS) {
            return FULL;
        }
        int fault = text.readInto(oceans[oceansRead]);
        text.size = 0;
        if (fault >= 0) {
            return -10 - fault;
        }
        now.ocean = oceans[oceansRead];
        oceansRead++;
        return oceansRead - 1;
    }

    public int told(int what) {
        switch (what) {
            case 0: return now.day;
            case 1: return now.ocean.wind;
            case 2: return now.ocean.lash;
            case 3: return now.sail;
            case 4: return now.stays;
            case 5: return now.went;
            case 6: return now.height();
            case 7: return now.miles();
            default: return within(what, 10, 9 + now.stands) ? now.mast[what - 10] : NONE;
        }
    }

    // ---- days

    public int pass(int n) {
        if (!within(n, 0, 60)) {
            return BAD;
        }
        if (now.day + n > LAST_DAY) {
            return STATE;
        }
        for (int d = 0; d < n; d++) {
            now.dayGoes();
        }
        return now.went;
    }

    public int on(int n, int what) {
        boolean ofLength = within(what, 10, 9 + now.pieces);
        boolean ofWear = within(what, 20, 19 + now.pieces);
        if (!within(what, 0, 2) && !ofLength && !ofWear) {
            return NONE;
        }
        if (!within(n, 0, 60)) {
            return BAD;
        }
        trial.startFrom(now);
        for (int d = 0; d < n; d++) {
            trial.dayGoes();
        }
        if (ofLength) {
            return trial.length[what - 10];
        }
        if (ofWear) {
            return trial.wear[what - 20];
        }
        return what == 0 ? trial.went : what == 1 ? trial.height() : trial.stands;
    }

    public int first(int what) {
        if (!within(what, 0, 1)) {
            return NONE;
        }
        trial.startFrom(now);
        for (int d = 0; d <= FIRST_WITHIN; d++) {
            int broken = trial.dayGoes();
            if (broken >= 0) {
                return what == 0 ? d : broken;
            }
        }
        return NEVER;
    }

    public int port(int m) {
        if (!within(m, 0, 9999)) {
            return BAD;
        }
        trial.startFrom(now);
        for (int d = 0; d <= 99; d++) {
            if (trial.went >= m) {
                return d;
            }
            trial.dayGoes();
        }
        return NEVER;
    }

    // ---- what is best

    public int spread() {
        int most = -1, best = 0;
        for (int sail = 0; sail <= 9; sail++) {
            trial.startFrom(now);
            trial.sail = sail;
            for (int d = 0; d < 30; d++) {
                trial.dayGoes();
            }
            if (trial.went > most) {
                most = trial.went;
                best = sail;
            }
        }
        return best;
    }

    public int fewest(int n) {
        if (!within(n, 1, 30)) {
            return BAD;
        }
        for (int stays = 0; stays <= 9; stays++) {
            trial.startFrom(now);
            trial.stays = stays;
            if (trial.nothingBreaksIn(n)) {
                return stays;
            }
        }
        return NEVER;
    }

    public int best(int what, int k) {
        if (!within(what, 0, 1) || !within(k, 0, 3)) {
            return NONE;
        }
        int row = bestRow(what);
        return k == 3 ? worth(what, row) : trial.lashRow(row) && k < trial.stands ? trial.mast[k] : NEVER;
    }

    public int longest(int k) {
        if (!within(k, 0, 3)) {
            return NONE;
        }
        int row = bestRow(LONGEST);
        if (k == 3) {
            int first = worth(LONGEST, row);
            return first > FIRST_WITHIN ? NEVER : first;
        }
        return trial.lashRow(row) && k < trial.stands ? trial.mast[k] : NEVER;
    }

    /** The number of the best row, of several the first; -1 if there is none. */
    private int bestRow(int by) {
        int most = NEVER, best = -1;
        for (int i = 0; i < Deck.ROWS; i++) {
            int much = worth(by, i);
            if (much > most) {
                most = much;
                best = i;
            }
        }
        return best;
    }

    /** How good a row is, were it THE MAST now; -5 if it is none that is in question. */
    private int worth(int by, int row) {
        trial.startFrom(now);
        if (!trial.lashRow(row)) {
            return NEVER;
        }
        if (by == HIGHEST) {
            return trial.breaking() < 0 ? trial.height() : NEVER;
        }
        if (by == FARTHEST) {
            for (int d = 0; d < 10; d++) {
                trial.dayGoes();
            }
            return trial.went;
        }
        if (!trial.standsOfTheSame(now)) {
            return NEVER;
        }
        for (int d = 0; d <= FIRST_WITHIN; d++) {
            if (trial.dayGoes() >= 0) {
                return d;
            }
        }
        return FIRST_WITHIN + 1;
    }

    // ---- seen, odds

    public int see(int many, int n) {
        if (many == -1) {
            return seen.clear();
        }
        if (!within(many, 0, MOST_IN_MAST) || !within(n, 0, 20)) {
            return BAD;
        }
        return seen.add(many, n) ? seen.size : FULL;
    }

    public int worn(int piece, int what) {
        if (!now.has(piece) || !within(what, 0, 1)) {
            return NONE;
        }
        return fitting(trial.wear, piece, 60, what);
    }

    public int can(int piece, int what) {
        if (!now.has(piece) || !within(what, 0, 1)) {
            return NONE;
        }
        return fitting(trial.v, piece, 9, what);
    }

    /** By how many numbers (0 .. last) in the trial's facts, at the PIECE, all of SEEN is so; or the least. */
    private int fitting(int[] facts, int piece, int last, int what) {
        int many = 0, least = NEVER;
        for (int n = 0; n <= last; n++) {
            trial.startFrom(now);
            facts[piece] = n;
            if (seenIsSo()) {
                least = many == 0 ? n : least;
                many++;
            }
        }
        return what == 0 ? many : least;
    }

    /** Whether all of SEEN comes to be so on the trial, which goes on meanwhile. */
    private boolean seenIsSo() {
        int last = 0;
        for (int i = 0; i < seen.size; i++) {
            last = Math.max(last, seen.right[i]);
        }
        for (int d = 0; d <= last; d++) {
            for (int i = 0; i < seen.size; i++) {
                if (seen.right[i] == d && seen.left[i] != trial.stands) {
                    return false;
                }
            }
            trial.dayGoes();
        }
        return true;
    }

    public long odds(int n, int part) {
        if (!within(n, 0, 60) || !within(part, 0, 1) || now.stands == 0) {
            return NO;
        }
        int well = 0;
        for (int lost = 0; lost < now.stands; lost++) {
            trial.startFrom(now);
            trial.stands = lost;
            if (trial.nothingBreaksIn(n)) {
                well++;
            }
        }
        return inLowestTerms(well, now.stands, part);
    }

    public long mean(int part) {
        if (!within(part, 0, 1) || now.stands == 0) {
            return NO;
        }
        int sum = 0;
        for (int place = 0; place < now.stands; place++) {
            sum += now.load(place);
        }
        return inLowestTerms(sum, now.stands, part);
    }

    /** Below the line stands 1, 2 or 3, which has no divisors but itself and 1. */
    private static long inLowestTerms(int above, int below, int part) {
        boolean whole = below > 0 && above % below == 0;
        if (part == 0) {
            return whole ? above / below : above;
        }
        return whole ? 1 : below;
    }

    // ---- plans, books

    public int plan(int what, int n) {
        if (what == -1) {
            return plans.clear();
        }
        if (!within(what, PLAN_DAY, PLAN_DOWN) || what == PLAN_HOIST && !now.has(n)) {
            return NONE;
        }
        if ((what == PLAN_SAIL || what == PLAN_STAYS) && !within(n, 0, 9)) {
            return BAD;
        }
        return plans.add(what, n) ? plans.size : FULL;
    }

    public int ends(int what) {
        if (!within(what, 0, 1)) {
            return NONE;
        }
        trial.startFrom(now);
        for (int i = 0; i < plans.size; i++) {
            followPlan(plans.left[i], plans.right[i]);
        }
        return what == 0 ? trial.went : trial.height();
    }

    private void followPlan(int what, int n) {
        switch (what) {
            case PLAN_DAY:
                trial.dayGoes();
                break;
            case PLAN_SAIL:
                trial.sail = n;
                break;
            case PLAN_STAYS:
                trial.stays = n;
                break;
            case PLAN_HOIST:
                if (trial.has(n) && trial.placeOf(n) < 0) {
                    trial.putUpon(n);
                }
                break;
            default:
                trial.stands = 0;
                break;
        }
    }

    public int book(int piece, int length) {
        if (piece == -1) {
            return books.clear();
        }
        if (!now.has(piece)) {
            return NONE;
        }
        if (!within(length, 0, 99)) {
            return BAD;
        }
        return books.add(piece, length) ? books.size : FULL;
    }

    public int looked() {
        for (int i = 0; i < books.size; i++) {
            int piece = books.left[i];
            if (!now.has(piece) || now.length[piece] != books.right[i]) {
                return i;
            }
        }
        return NEVER;
    }

    // ---- judging, the image, acts, tapes

    public int judge(int tape, int i) {
        if (!within(tape, 0, MOST_TAPES - 1)) {
            return NONE;
        }
        Tape row = tapes[tape];
        if (row.sort != Tape.EMPTY && row.sort != Tape.BYTES) {
            return CAST;
        }
        for (int p = 0; p < now.pieces; p++) {
            // An empty TAPE has size 0; i + p could wrap, so the places left are counted instead.
            if (i < 0 || i >= row.size - p) {
                return 100 + p;
            }
            if (row.items[i + p] != now.length[p]) {
                return p;
            }
        }
        return NEVER;
    }

    public int image() {
        kept.copyFrom(now);
        keptSeen.copyFrom(seen);
        keptPlans.copyFrom(plans);
        keptBooks.copyFrom(books);
        imaged = true;
        return now.pieces;
    }

    public int undo() {
        if (!imaged) {
            return STATE;
        }
        now.copyFrom(kept);
        seen.copyFrom(keptSeen);
        plans.copyFrom(keptPlans);
        books.copyFrom(keptBooks);
        return now.pieces;
    }

    public int act(int piece, int act, int x) {
        if (!now.has(piece) || !within(act, 0, 2)) {
            acts.ran = 0;
            return 0;
        }
        return acts.start(now.kind[piece], piece, now.v[piece], act, x);
    }

    public int trace(int i) {
        return i >= 0 && i < acts.ran && i < Acts.KEPT ? acts.bodies[i] : NONE;
    }

    public int taken(int piece, int k) {
        if (!within(k, 0, KINDS - 1)) {
            return BAD;
        }
        if (!now.has(piece)) {
            return NOTHING;
        }
        int kind = now.kind[piece];
        int up = kind;
        for (int i = 0; i < KINDS && up >= 0; i++) {
            if (up == k) {
                return kind;
            }
            up = KIND_ABOVE[up];
        }
        return CAST;
    }

    public int count(int what) {
        switch (what) {
            case 0: return now.pieces;
            case 1: return oceansRead;
            case 2: return now.stands;
            case 3: return seen.size;
            case 4: return plans.size;
            case 5: return books.size;
            case 6: return text.size;
            case 7: return acts.ran;
            default: return BAD;
        }
    }

    public int tape(int tape, int sort, int n) {
        if (!within(tape, 0, MOST_TAPES - 1)) {
            return NONE;
        }
        if (sort == Tape.EMPTY) {
            tapes[tape].become(sort, 0);
            return 1;
        }
        if (!within(sort, Tape.BYTES, Tape.BOOLEANS) || n > Tape.LONGEST_ROW) {
            return BAD;
        }
        if (n < 0) {
            return SIZE;
        }
        tapes[tape].become(sort, n);
        return 1;
    }

    public int item(int tape, int i, long v) {
        if (!within(tape, 0, MOST_TAPES - 1)) {
            return NONE;
        }
        Tape row = tapes[tape];
        if (row.sort == Tape.EMPTY) {
            return NOTHING;
        }
        if (!within(i, 0, row.size - 1)) {
            return PLACE;
        }
        row.items[i] = row.cut(v);
        return 1;
    }

    public long read(int tape, int i) {
        if (!within(tape, 0, MOST_TAPES - 1) || !within(i, 0, tapes[tape].size - 1)) {
            return NO;
        }
        return tapes[tape].items[i];
    }

    public int shift(int tape, int i, int other, int j, int n) {
        if (!within(tape, 0, MOST_TAPES - 1) || !within(other, 0, MOST_TAPES - 1)) {
            return NONE;
        }
        Tape from = tapes[tape];
        Tape to = tapes[other];
        if (from.sort == Tape.EMPTY || to.sort == Tape.EMPTY) {
            return NOTHING;
        }
        if (from.sort != to.sort) {
            return CAST;
        }
        // i + n could wrap, so n is held against the places left.
        if (n < 0 || i < 0 || j < 0 || n > from.size - i || n > to.size - j) {
            return PLACE;
        }
        System.arraycopy(from.items, i, to.items, j, n);
        return n;
    }

    private static boolean within(int n, int least, int most) {
        return n >= least && n <= most;
    }

    /** How all is: the PIECES, THE MAST, and what days change. */
    private static final class Deck {
        /** How many numbers lashRow is given a row by. */
        static final int ROWS = MOST_PIECES * (MOST_PIECES + 1) * (MOST_PIECES + 1);

        final int[] kind = new int[MOST_PIECES];
        final int[] v = new int[MOST_PIECES];
        final int[] length = new int[MOST_PIECES];
        final int[] wear = new int[MOST_PIECES];
        final int[] broke = new int[MOST_PIECES];
        final int[] rows = new int[MOST_PIECES * 4];
        final int[] mast = new int[MOST_IN_MAST];
        int pieces, stands, sail, stays, went, day;
        Ocean ocean;

        Deck(Ocean calm) {
            ocean = calm;
            sail = 1;
        }

        void copyFrom(Deck other) {
            System.arraycopy(other.kind, 0, kind, 0, MOST_PIECES);
            System.arraycopy(other.v, 0, v, 0, MOST_PIECES);
            System.arraycopy(other.length, 0, length, 0, MOST_PIECES);
            System.arraycopy(other.wear, 0, wear, 0, MOST_PIECES);
            System.arraycopy(other.broke, 0, broke, 0, MOST_PIECES);
            System.arraycopy(other.rows, 0, rows, 0, MOST_PIECES * 4);
            System.arraycopy(other.mast, 0, mast, 0, MOST_IN_MAST);
            pieces = other.pieces;
            stands = other.stands;
            sail = other.sail;
            stays = other.stays;
            went = other.went;
            day = other.day;
            ocean = other.ocean;
        }

        /** What is asked counts miles from now on, so that no bound of WENT is met on the way. */
        void startFrom(Deck other) {
            copyFrom(other);
            went = 0;
        }

        int take(int newKind, int newV, int newLength) {
            int p = pieces;
            kind[p] = newKind;
            v[p] = newV;
            length[p] = newLength;
            wear[p] = 0;
            broke[p] = 0;
            for (int part = 0; part < 4; part++) {
                rows[4 * p + part] = 0;
            }
            pieces++;
            return p;
        }

        boolean has(int p) {
            return p >= 0 && p < pieces;
        }

        /** -1 if the PIECE is not in THE MAST. */
        int placeOf(int p) {
            for (int place = 0; place < stands; place++) {
                if (mast[place] == p) {
                    return place;
                }
            }
            return -1;
        }

        void putUpon(int p) {
            if (stands < MOST_IN_MAST) {
                mast[stands] = p;
                stands++;
            }
        }

        /**
         * Makes THE MAST the i-th of all rows, as they come one ahead of the other; false if i tells none.
         * i is three digits to the base 7: a foot, and then 0 for nothing or a PIECE's number and 1;
         * nothing comes ahead of any PIECE, so a row comes ahead of a longer one that begins so.
         */
        boolean lashRow(int i) {
            if (i < 0 || i >= ROWS) {
                return false;
            }
            int foot = i / 49, middle = i / 7 % 7 - 1, top = i % 7 - 1;
            mast[0] = foot;
            mast[1] = middle;
            mast[2] = top;
            stands = middle < 0 ? 1 : top < 0 ? 2 : 3;
            boolean gap = middle < 0 && top >= 0;
            boolean twice = foot == middle || foot == top || middle >= 0 && middle == top;
            return !gap && !twice && foot < pieces && middle < pieces && top < pieces;
        }

        boolean standsOfTheSame(Deck other) {
            for (int place = 0; place < stands; place++) {
                if (other.placeOf(mast[place]) < 0) {
                    return false;
                }
            }
            return stands == other.stands;
        }

        int above(int place) {
            int sum = 0;
            for (int i = place; i < stands; i++) {
                sum += length[mast[i]];
            }
            int lashed = ocean.lash * (stands - 1 - place);
            return sum > lashed ? sum - lashed : 0;
        }

        int height() {
            return stands == 0 ? 0 : above(0);
        }

        int load(int place) {
            return Math.max(0, above(place) * sail / 5 + ocean.wind - 3 * stays);
        }

        int miles() {
            return height() * sail / 10;
        }

        int strength(int p) {
            int heart = ocean.heart(this, p);
            int strength = heart - wear[p];
            switch (kind[p]) {
                case OAR:
                    strength = heart / 2 - wear[p];
                    break;
                case BOOM:
                    strength += 10;
                    break;
                case POLE:
                    strength += v[p];
                    break;
                case WIRED:
                    strength = heart / 2 - wear[p] + 2 * stays;
                    break;
                case CRACKED:
                    strength += 10 - wear[p];
                    break;
                case TOLD:
                    strength += v[p] + rows[4 * p + day % 4];
                    break;
                default:
                    break;
            }
            return Math.max(0, strength);
        }

        /** The place in THE MAST of what BREAKS on the next DAY, or -1. */
        int breaking() {
            for (int place = 0; place < stands; place++) {
                if (load(place) > strength(mast[place])) {
                    return place;
                }
            }
            return -1;
        }

        /** The PIECE that BREAKS on this DAY, or -1. */
        int dayGoes() {
            int place = breaking();
            day++;
            if (place >= 0) {
                int p = mast[place];
                length[p] = length[p] / 2;
                wear[p] = 0;
                broke[p] = Math.min(9999, broke[p] + 1);
                stands = place;
                return p;
            }
            went = Math.min(LAST_MILE, went + miles());
            for (int i = 0; i < stands; i++) {
                int p = mast[i];
                wear[p] = Math.min(99, wear[p] + load(i) / 10);
            }
            return -1;
        }

        boolean nothingBreaksIn(int days) {
            for (int d = 0; d < days; d++) {
                if (dayGoes() >= 0) {
                    return false;
                }
            }
            return true;
        }
    }

    /**
     * An OCEAN: its last WIND and LASH, and one row of steps that tells the HEART of a PIECE.
     * A step is a test, or joins the newest outcomes, or (;) ends what a firm or weak asks.
     */
    private static final class Ocean {
        static final int MOST_STEPS = 100;

        private final int[] step = new int[MOST_STEPS];
        private final int[] letter = new int[MOST_STEPS];
        private final int[] number = new int[MOST_STEPS];
        private final int[] facts = new int[6];
        private int steps;
        int wind, lash;

        Ocean() {
            becomeCalm();
        }

        void becomeCalm() {
            steps = 0;
            wind = 5;
            lash = 2;
        }

        void add(int newStep, int newLetter, int newNumber) {
            if (steps < MOST_STEPS) {
                step[steps] = newStep;
                letter[steps] = newLetter;
                number[steps] = newNumber;
                steps++;
            }
        }

        int heart(Deck deck, int p) {
            facts[0] = p;
            facts[1] = deck.kind[p];
            facts[2] = deck.v[p];
            facts[3] = deck.length[p] / 10;
            facts[4] = deck.wear[p] / 10;
            facts[5] = deck.day % 10;
            int heart = 20;
            // Outcomes not yet joined, a bit each, the newest lowest: four levels hold at most eleven.
            int held = 0;
            for (int s = 0; s < steps; s++) {
                switch (step[s]) {
                    case '!':
                        held ^= 1;
                        break;
                    case '&':
                        held = held >>> 1 & (held | ~1);
                        break;
                    case '|':
                        held = held >>> 1 | held & 1;
                        break;
                    case ';':
                        heart += (held & 1) == 1 ? number[s] : 0;
                        held >>>= 1;
                        break;
                    case '<':
                        held = held << 1 | (facts[letter[s]] < number[s] ? 1 : 0);
                        break;
                    case '=':
                        held = held << 1 | (facts[letter[s]] == number[s] ? 1 : 0);
                        break;
                    default:
                        held = held << 1 | (facts[letter[s]] > number[s] ? 1 : 0);
                        break;
                }
            }
            return heart;
        }
    }

    /** THE TEXT, and how an OCEAN is read from it: what can't be taken leaves the place at the FAULT. */
    private static final class Text {
        private static final int MOST_SIGNS = 100, MOST_CLAUSES = 10, MOST_WITHIN = 4;
        private static final String WORDS = "firmweakwindlash", LETTERS = "pkvlwd";
        private static final int FIRM = 0, WIND = 2, LASH = 3;

        private final byte[] signs = new byte[MOST_SIGNS];
        private Ocean into;
        private int at;
        int size;

        boolean add(byte sign) {
            if (size >= MOST_SIGNS) {
                return false;
            }
            signs[size] = sign;
            size++;
            return true;
        }

        /** The FAULT; -1 if there is none. */
        int readInto(Ocean ocean) {
            into = ocean;
            into.becomeCalm();
            at = 0;
            for (int clause = 1; clause <= MOST_CLAUSES; clause++) {
                if (!readsClause()) {
                    return at;
                }
                if (at == size) {
                    return -1;
                }
                if (clause == MOST_CLAUSES || !takes(';')) {
                    return at;
                }
            }
            return at;
        }

        private boolean readsClause() {
            int word = takesWord();
            if (word < 0 || !takes(' ')) {
                return false;
            }
            int n = takesNumber();
            if (n < 0) {
                return false;
            }
            if (word == WIND) {
                into.wind = n;
                return true;
            }
            if (word == LASH) {
                into.lash = n;
                return true;
            }
            if (!takes(' ') || !readsAny(0)) {
                return false;
            }
            into.add(';', 0, word == FIRM ? n : -n);
            return true;
        }

        /** An E of the document, within that many ( and !. */
        private boolean readsAny(int depth) {
            if (!readsAll(depth)) {
                return false;
            }
            for (int i = 0; i < MOST_SIGNS && takes('|'); i++) {
                if (!readsAll(depth)) {
                    return false;
                }
                into.add('|', 0, 0);
            }
            return true;
        }

        /** A T of the document. */
        private boolean readsAll(int depth) {
            if (!readsOne(depth)) {
                return false;
            }
            for (int i = 0; i < MOST_SIGNS && takes('&'); i++) {
                if (!readsOne(depth)) {
                    return false;
                }
                into.add('&', 0, 0);
            }
            return true;
        }

        /** An F of the document. */
        private boolean readsOne(int depth) {
            if (depth < MOST_WITHIN && takes('!')) {
                if (!readsOne(depth + 1)) {
                    return false;
                }
                into.add('!', 0, 0);
                return true;
            }
            if (depth < MOST_WITHIN && takes('(')) {
                return readsAny(depth + 1) && takes(')');
            }
            int letter = at < size ? LETTERS.indexOf((char) signs[at]) : -1;
            if (letter < 0) {
                return false;
            }
            at++;
            int sign = at < size ? signs[at] : 0;
            if (!takes('<') && !takes('=') && !takes('>')) {
                return false;
            }
            int n = takesNumber();
            if (n < 0) {
                return false;
            }
            into.add(sign, letter, n);
            return true;
        }

        private boolean takes(int sign) {
            if (at < size && signs[at] == sign) {
                at++;
                return true;
            }
            return false;
        }

        /** Which word; -1 if none, and the place is then behind as much as one of them begins with. */
        private int takesWord() {
            int longest = 0;
            for (int word = 0; word <= LASH; word++) {
                int same = 0;
                while (same < 4 && at + same < size && signs[at + same] == WORDS.charAt(4 * word + same)) {
                    same++;
                }
                if (same == 4) {
                    at += 4;
                    return word;
                }
                longest = Math.max(longest, same);
            }
            at += longest;
            return -1;
        }

        /** One or two digits; -1 if there is none. */
        private int takesNumber() {
            int n = -1;
            for (int i = 0; i < 2 && at < size && signs[at] >= '0' && signs[at] <= '9'; i++) {
                n = Math.max(n, 0) * 10 + signs[at] - '0';
                at++;
            }
            return n;
        }
    }

    /** The ACTS of a PIECE: a body calls others by its KIND, or by the KIND above the body's. */
    private static final class Acts {
        static final int KEPT = 20;
        private static final int BENDS = 0, HOLDS = 1, TELLS = 2;
        /** The bodies of each KIND: bends, holds, tells; 0 for none. */
        private static final int[] BODIES = {
            10, 11, 12,
            0, 20, 0,
            30, 0, 0,
            0, 0, 40,
            50, 51, 0,
            0, 0, 60,
            71, 70, 0,
        };
        /** Far above the longest way through the bodies. */
        private static final int MOST_OPEN = 40;

        final int[] bodies = new int[KEPT];
        int ran;
        private int kind, number, v;

        int start(int ofKind, int ofNumber, int ofV, int act, int x) {
            kind = ofKind;
            number = ofNumber;
            v = ofV;
            ran = 0;
            return run(kind, act, x, 0);
        }

        private int run(int from, int act, int x, int open) {
            int owner = ownerOf(from, act);
            if (owner < 0 || open > MOST_OPEN) {
                return 0;
            }
            int body = BODIES[3 * owner + act];
            if (ran < KEPT) {
                bodies[ran] = body;
            }
            ran++;
            int up = KIND_ABOVE[owner];
            int next = open + 1;
            switch (body) {
                case 10: return x + number;
                case 11: return run(kind, BENDS, x, next) - v;
                case 12: return run(kind, HOLDS, x, next) * 2;
                case 20: return run(up, HOLDS, x, next) ^ 6;
                case 30: return run(up, BENDS, x * 3, next);
                case 40: return run(up, TELLS, x, next) + run(kind, HOLDS, 1, next);
                case 50: return -run(up, BENDS, x, next);
                case 51: return run(up, HOLDS, x + 1, next);
                case 60: return run(up, TELLS, x - number, next);
                case 70: return run(up, HOLDS, x, next) + run(up, BENDS, 2, next);
                case 71: return run(up, BENDS, x, next) ^ v;
                default: return 0;
            }
        }

        /** The KIND, from one on upward, whose body an act is; -1 if there is none. */
        private static int ownerOf(int from, int act) {
            int owner = from;
            for (int i = 0; i < KINDS && owner >= 0 && BODIES[3 * owner + act] == 0; i++) {
                owner = KIND_ABOVE[owner];
            }
            return owner;
        }
    }

    /** Rows of two numbers told by hand, so many at most. */
    private static final class Pairs {
        final int[] left, right;
        int size;

        Pairs(int most) {
            left = new int[most];
            right = new int[most];
        }

        boolean add(int newLeft, int newRight) {
            if (size >= left.length) {
                return false;
            }
            left[size] = newLeft;
            right[size] = newRight;
            size++;
            return true;
        }

        int clear() {
            size = 0;
            return 0;
        }

        void copyFrom(Pairs other) {
            size = Math.min(other.size, left.length);
            System.arraycopy(other.left, 0, left, 0, size);
            System.arraycopy(other.right, 0, right, 0, size);
        }
    }

    /** A TAPE: items of every sort are held as longs, cut as the sort asks. */
    private static final class Tape {
        static final int EMPTY = -1, BYTES = 0, SHORTS = 1, INTS = 2, BOOLEANS = 4;
        static final int LONGEST_ROW = 60;

        final long[] items = new long[LONGEST_ROW];
        int sort = EMPTY, size;

        void become(int newSort, int newSize) {
            sort = newSort;
            size = newSize;
            for (int i = 0; i < LONGEST_ROW; i++) {
                items[i] = 0;
            }
        }

        long cut(long n) {
            switch (sort) {
                case BYTES: return (byte) n;
                case SHORTS: return (short) n;
                case INTS: return (int) n;
                case BOOLEANS: return n != 0 ? 1 : 0;
                default: return n;
            }
        }
    }
}
