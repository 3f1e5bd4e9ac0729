/**
 * A grudging valley and its bell: who did what to whom, who lets off which of it, and what the
 * sexton is asked of it. No call makes an object: all rows are made with the object itself.
 */
public final class BellForgiven {
    public static final int NONE = -1, BAD = -2, NO = -3, FULL = -4;

    private static final int MOST_PEOPLE = 6, MOST_WRONGS = 8, MOST_BYTES = 150;
    private static final int KINDS = 6, GRAVEST = 9, OLDEST = 99, LAST_DAY = 999;
    private static final int IMAGES = 2, TALLIES = 11;
    private static final int FEW_SHORT = -5, FEW_NONE = -6, FEW_BAD = -10, FAULT_AT = -10;

    private final Valley now = new Valley();
    private final Valley[] images = {new Valley(), new Valley()};
    private final boolean[] kept = new boolean[IMAGES];
    private final Text text = new Text();
    private final Reader reader = new Reader();
    private final Row row = new Row();
    private final Guess guess = new Guess();
    private final Chance chance = new Chance();
    private int refusedBad;
    private int refusedNo;
    private int refusedFull;

    public BellForgiven() {
    }

    // ---- a valley

    public int valley() {
        int had = now.people;
        now.empty();
        return had;
    }

    public int one(int kind) {
        if (!within(kind, 0, KINDS - 1)) {
            return bad();
        }
        if (now.people >= MOST_PEOPLE) {
            return full();
        }
        now.past.size = 0;
        return now.addPerson(kind);
    }

    public int wrong(int kind, int a, int b, int gravity) {
        if (!within(kind, 0, KINDS - 1) || !now.hasPerson(a) || !now.hasPerson(b) || a == b
                || !within(gravity, 1, GRAVEST)) {
            return bad();
        }
        if (now.wrongs >= MOST_WRONGS) {
            return full();
        }
        now.past.size = 0;
        return now.addWrong(kind, a, b, gravity);
    }

    public int type(int c) {
        if (!within(c, 0, 127)) {
            return bad();
        }
        if (text.length >= MOST_BYTES) {
            return full();
        }
        return text.add(c);
    }

    public int clear() {
        int had = text.length;
        text.length = 0;
        return had;
    }

    public int read() {
        int items = reader.items(text);
        if (items < 0) {
            return FAULT_AT - text.start;
        }
        now.take(reader.draft);
        return items;
    }

    // ---- days

    public int days(int n) {
        if (!within(n, 1, 60)) {
            return bad();
        }
        now.remember();
        now.pass(n);
        return now.day;
    }

    public int rings(int k) {
        if (!now.hasWrong(k)) {
            return bad();
        }
        if (!now.could(k, 0, 0, 0)) {
            return no();
        }
        now.remember();
        return now.stroke(k);
    }

    public int undo() {
        if (now.past.size == 0) {
            return no();
        }
        now.goBack();
        return now.day;
    }

    public int of(int i, int what) {
        if (!now.hasPerson(i) || !within(what, 0, 3)) {
            return bad();
        }
        switch (what) {
            case 0: return now.nature[i];
            case 1: return now.rung[i];
            case 2: return now.mercy(i, 0, 0);
            default: return now.isGuilty(i) ? 1 : 0;
        }
    }

    public int about(int k, int what) {
        if (!now.hasWrong(k) || !within(what, 0, 6)) {
            return bad();
        }
        return now.told(k, what);
    }

    // ---- who is let off

    public int may() {
        return Strokes.possible(now);
    }

    public int peal() {
        return Strokes.allWithout(now, 0);
    }

    public int when(int k) {
        return now.hasWrong(k) ? Strokes.daysUntil(now, k) : bad();
    }

    public int few(int k, int n) {
        if (!now.hasWrong(k) || n < NONE) {
            bad();
            return FEW_BAD;
        }
        int size = row.size(now, k);
        if (size == Row.NEVER) {
            return FEW_NONE;
        }
        if (n == NONE) {
            return size;
        }
        return n < size ? row.stroke(now, n) : FEW_SHORT;
    }

    public int hush(int k) {
        return now.hasWrong(k) ? Strokes.silence(now, k) : bad();
    }

    public int round(int i) {
        return now.hasPerson(i) ? Strokes.ring(now, i) : bad();
    }

    // ---- how grave it was

    public int seen(int k, int d, int l, int off) {
        if (!now.hasWrong(k) || !within(d, 0, 99) || !within(l, 0, 40) || !within(off, 0, 1)) {
            return bad();
        }
        return now.seen.isFull() ? full() : now.seen.add(k, d, l, off);
    }

    public int grave(int k, int what) {
        if (!now.hasWrong(k) || !within(what, 0, 2)) {
            return bad();
        }
        int fit = Guess.gravities(now, k);
        switch (what) {
            case 0: return Integer.bitCount(fit);
            case 1: return lowest(fit);
            default: return highest(fit);
        }
    }

    public int tell(int k) {
        return now.hasWrong(k) ? Guess.nextSight(now, k) : bad();
    }

    public int note(int k, int g, int d, int x) {
        if (!now.hasWrong(k) || !within(g, 1, GRAVEST) || !within(d, 0, 99) || !within(x, 0, 40)) {
            return bad();
        }
        return now.notes.isFull() ? full() : now.notes.add(k, g, d, x);
    }

    public int mark(int i, int r, int t, int x) {
        if (!now.hasPerson(i) || !within(r, 0, 9) || !within(t, 0, 99) || !within(x, 0, 60)) {
            return bad();
        }
        return now.marks.isFull() ? full() : now.marks.add(i, r, t, x);
    }

    public int forget(int what) {
        switch (what) {
            case 0: return now.seen.drop();
            case 1: return now.notes.drop();
            case 2: return now.marks.drop();
            default: return bad();
        }
    }

    public int is(int k) {
        return now.hasWrong(k) ? Guess.wrongKinds(now, k) : bad();
    }

    public int look(int k) {
        return now.hasWrong(k) ? guess.nextLook(now, k) : bad();
    }

    public int kinds(int i) {
        return now.hasPerson(i) ? Guess.peopleKinds(now, i) : bad();
    }

    public int ask(int i) {
        return now.hasPerson(i) ? guess.nextAsk(now, i) : bad();
    }

    public int first(int a, int b) {
        if (!now.hasPerson(a) || !now.hasPerson(b) || a == b) {
            return bad();
        }
        return Pair.resting(now.mercy(a, 0, 0) < 3, now.mercy(b, 0, 0) < 3);
    }

    public int rust(int k, int wrongs, int c) {
        if (!now.hasWrong(k) || !within(wrongs, 0, now.allWrongs()) || !within(c, 0, 10)
                || holds(wrongs, k)) {
            return bad();
        }
        chance.ofRust(now, k, wrongs, c);
        return 1;
    }

    public int easters(int seed, int n) {
        if (!within(seed, 0, 999999) || !within(n, 0, 60)) {
            return bad();
        }
        return Strokes.letOffBySeed(now, seed, n);
    }

    // ---- what there is

    public long part(int what) {
        switch (what) {
            case 0: return chance.above;
            case 1: return chance.below;
            default: return bad();
        }
    }

    public int image(int i) {
        if (!within(i, 0, IMAGES - 1)) {
            return bad();
        }
        images[i].take(now);
        kept[i] = true;
        return 1;
    }

    public int from(int i) {
        if (!within(i, 0, IMAGES - 1)) {
            return bad();
        }
        if (!kept[i]) {
            return no();
        }
        now.take(images[i]);
        return 1;
    }

    public int status(int what) {
        switch (what) {
            case 0: return refusedBad;
            case 1: return refusedNo;
            case 2: return refusedFull;
            default:
                bad();
                return NONE;
        }
    }

    public int count(int what) {
        return within(what, 0, TALLIES - 1) ? tally(what) : bad();
    }

    public long digest() {
        long h = 1693;
        for (int what = 0; what < TALLIES; what++) {
            h = 31 * h + tally(what);
        }
        h = now.digestOn(h);
        h = 31 * h + chance.above;
        return 31 * h + chance.below;
    }

    // ---- helpers of the face

    private int tally(int what) {
        switch (what) {
            case 0: return now.people;
            case 1: return now.wrongs;
            case 2: return Integer.bitCount(now.letOff);
            case 3: return now.guilty();
            case 4: return now.day;
            case 5: return now.strokes();
            case 6: return now.seen.size;
            case 7: return now.notes.size;
            case 8: return now.marks.size;
            case 9: return now.past.size;
            default: return text.length;
        }
    }

    private int bad() {
        refusedBad++;
        return BAD;
    }

    private int no() {
        refusedNo++;
        return NO;
    }

    private int full() {
        refusedFull++;
        return FULL;
    }

    private static boolean within(int x, int least, int most) {
        return x >= least && x <= most;
    }

    private static boolean holds(int bits, int k) {
        return (bits >> k & 1) != 0;
    }

    private static int lowest(int bits) {
        for (int k = 0; k < 31; k++) {
            if (holds(bits, k)) {
                return k;
            }
        }
        return NONE;
    }

    private static int highest(int bits) {
        for (int k = 30; k >= 0; k--) {
            if (holds(bits, k)) {
                return k;
            }
        }
        return NONE;
    }

    /** What the KINDS of WRONGS weigh and what the KINDS of PEOPLE let off. */
    private static final class Kinds {
        private static final int APPLE = 1, OATH = 2, LATE = 3, DEATH = 4, WORD = 5;
        private static final int MILD = 1, HARD = 2, EASTER = 3, GRUDGE = 4, OLD = 5;

        static int weight(int kind, int gravity, int days) {
            int apple = Math.max(0, gravity - days / 3);
            int oath = gravity + Math.min(5, days / 5);
            switch (kind) {
                case APPLE: return apple;
                case OATH: return oath;
                case LATE: return Math.max(2, apple);
                case DEATH: return 2 * oath;
                case WORD: return days >= 1 && days % 7 == 0 ? 0 : apple;
                default: return gravity;
            }
        }

        static int mercy(int kind, int rung, int day) {
            int plain = 2 + rung;
            int mild = plain + 3;
            int hard = plain / 2;
            switch (kind) {
                case MILD: return mild;
                case HARD: return hard;
                case EASTER: return day % 30 == 0 ? 30 : hard;
                case GRUDGE: return rung >= 2 ? hard + 1 : hard;
                case OLD: return mild + Math.min(9, day / 10);
                default: return plain;
            }
        }
    }

    /** Rows of four numbers, as they come: SEEN ones, NOTES or MARKS. */
    private static final class Rows {
        private static final int WIDTH = 4;
        private final int[] cells;
        private final int most;
        int size;

        Rows(int most) {
            this.most = most;
            this.cells = new int[most * WIDTH];
        }

        boolean isFull() {
            return size >= most;
        }

        int add(int a, int b, int c, int d) {
            int at = size * WIDTH;
            cells[at] = a;
            cells[at + 1] = b;
            cells[at + 2] = c;
            cells[at + 3] = d;
            size++;
            return size;
        }

        int cell(int n, int column) {
            return cells[n * WIDTH + column];
        }

        int drop() {
            int had = size;
            size = 0;
            return had;
        }

        void take(Rows other) {
            System.arraycopy(other.cells, 0, cells, 0, cells.length);
            size = other.size;
        }

        long digestOn(long h) {
            for (int at = 0; at < size * WIDTH; at++) {
                h = 31 * h + cells[at];
            }
            return h;
        }
    }

    /** The moments that may be undone, the last one last. */
    private static final class Past {
        static final int MOST = 8;
        private static final int WIDTH = MOST_PEOPLE + MOST_WRONGS + 2;
        private final int[] cells = new int[MOST * WIDTH];
        int size;

        void push(Valley v) {
            if (size == MOST) {
                System.arraycopy(cells, WIDTH, cells, 0, (MOST - 1) * WIDTH);
                size--;
            }
            int at = size * WIDTH;
            System.arraycopy(v.rung, 0, cells, at, MOST_PEOPLE);
            System.arraycopy(v.age, 0, cells, at + MOST_PEOPLE, MOST_WRONGS);
            cells[at + WIDTH - 2] = v.letOff;
            cells[at + WIDTH - 1] = v.day;
            size++;
        }

        void pop(Valley v) {
            if (size == 0) {
                return;
            }
            size--;
            int at = size * WIDTH;
            System.arraycopy(cells, at, v.rung, 0, MOST_PEOPLE);
            System.arraycopy(cells, at + MOST_PEOPLE, v.age, 0, MOST_WRONGS);
            v.letOff = cells[at + WIDTH - 2];
            v.day = cells[at + WIDTH - 1];
        }

        void take(Past other) {
            System.arraycopy(other.cells, 0, cells, 0, cells.length);
            size = other.size;
        }
    }

    /** All that an image keeps: PEOPLE, WRONGS, the DAY, what was told of them, what may be undone. */
    private static final class Valley {
        int people;
        final int[] nature = new int[MOST_PEOPLE];
        final int[] rung = new int[MOST_PEOPLE];
        int wrongs;
        final int[] kind = new int[MOST_WRONGS];
        final int[] by = new int[MOST_WRONGS];
        final int[] to = new int[MOST_WRONGS];
        final int[] gravity = new int[MOST_WRONGS];
        final int[] age = new int[MOST_WRONGS];
        int letOff;
        int day;
        final Rows seen = new Rows(5);
        final Rows notes = new Rows(6);
        final Rows marks = new Rows(6);
        final Past past = new Past();

        void empty() {
            people = 0;
            wrongs = 0;
            letOff = 0;
            day = 0;
            seen.size = 0;
            notes.size = 0;
            marks.size = 0;
            past.size = 0;
        }

        void take(Valley other) {
            people = other.people;
            wrongs = other.wrongs;
            letOff = other.letOff;
            day = other.day;
            System.arraycopy(other.nature, 0, nature, 0, MOST_PEOPLE);
            System.arraycopy(other.rung, 0, rung, 0, MOST_PEOPLE);
            System.arraycopy(other.kind, 0, kind, 0, MOST_WRONGS);
            System.arraycopy(other.by, 0, by, 0, MOST_WRONGS);
            System.arraycopy(other.to, 0, to, 0, MOST_WRONGS);
            System.arraycopy(other.gravity, 0, gravity, 0, MOST_WRONGS);
            System.arraycopy(other.age, 0, age, 0, MOST_WRONGS);
            seen.take(other.seen);
            notes.take(other.notes);
            marks.take(other.marks);
            past.take(other.past);
        }

        boolean hasPerson(int i) {
            return within(i, 0, people - 1);
        }

        boolean hasWrong(int k) {
            return within(k, 0, wrongs - 1);
        }

        int allWrongs() {
            return (1 << wrongs) - 1;
        }

        /** The caller has seen to it that there is room. */
        int addPerson(int newKind) {
            nature[people] = newKind;
            rung[people] = 0;
            people++;
            return people - 1;
        }

        /** The caller has seen to it that there is room. */
        int addWrong(int newKind, int a, int b, int newGravity) {
            kind[wrongs] = newKind;
            by[wrongs] = a;
            to[wrongs] = b;
            gravity[wrongs] = newGravity;
            age[wrongs] = 0;
            wrongs++;
            return wrongs - 1;
        }

        void pass(int n) {
            int gone = Math.min(n, LAST_DAY - day);
            for (int k = 0; k < wrongs; k++) {
                if (!holds(letOff, k)) {
                    age[k] = ageIn(k, gone);
                }
            }
            day += gone;
        }

        int stroke(int k) {
            int a = by[k];
            letOff |= 1 << k;
            rung[a]++;
            return rung[a];
        }

        void remember() {
            past.push(this);
        }

        void goBack() {
            past.pop(this);
        }

        private int ageIn(int k, int later) {
            return Math.min(OLDEST, age[k] + later);
        }

        int weight(int k, int later) {
            return Kinds.weight(kind[k], gravity[k], ageIn(k, later));
        }

        /** What i lets off some days later, if the bell has gone for those in sounded besides. */
        int mercy(int i, int sounded, int later) {
            int pulled = rung[i];
            for (int k = 0; k < wrongs; k++) {
                if (holds(sounded, k) && by[k] == i) {
                    pulled++;
                }
            }
            return Kinds.mercy(nature[i], pulled, day + later);
        }

        /** Whether k could have a stroke some days later, if those in gone were let off besides. */
        boolean could(int k, int gone, int sounded, int later) {
            return !holds(letOff | gone, k) && weight(k, later) <= mercy(to[k], sounded, later);
        }

        boolean isGuilty(int i) {
            for (int k = 0; k < wrongs; k++) {
                if (by[k] == i && !holds(letOff, k)) {
                    return true;
                }
            }
            return false;
        }

        int guilty() {
            int n = 0;
            for (int i = 0; i < people; i++) {
                if (isGuilty(i)) {
                    n++;
                }
            }
            return n;
        }

        int strokes() {
            int n = 0;
            for (int i = 0; i < people; i++) {
                n += rung[i];
            }
            return n;
        }

        int told(int k, int what) {
            switch (what) {
                case 0: return kind[k];
                case 1: return by[k];
                case 2: return to[k];
                case 3: return gravity[k];
                case 4: return age[k];
                case 5: return holds(letOff, k) ? 1 : 0;
                default: return weight(k, 0);
            }
        }

        long digestOn(long h) {
            for (int i = 0; i < people; i++) {
                h = 31 * h + nature[i];
                h = 31 * h + rung[i];
            }
            for (int k = 0; k < wrongs; k++) {
                for (int what = 0; what < 6; what++) {
                    h = 31 * h + told(k, what);
                }
            }
            return marks.digestOn(notes.digestOn(seen.digestOn(h)));
        }
    }

    /** What strokes there can be: none of it changes the valley. */
    private static final class Strokes {
        private static final int MOST_LATER = 60;

        static int possible(Valley v) {
            int bits = 0;
            for (int k = 0; k < v.wrongs; k++) {
                if (v.could(k, 0, 0, 0)) {
                    bits |= 1 << k;
                }
            }
            return bits;
        }

        /** All that can be let off today, if those in still have no stroke. */
        static int allWithout(Valley v, int still) {
            int gone = 0;
            for (int again = 0; again < v.wrongs; again++) {
                int before = gone;
                for (int k = 0; k < v.wrongs; k++) {
                    if (!holds(still, k) && v.could(k, gone, gone, 0)) {
                        gone |= 1 << k;
                    }
                }
                if (gone == before) {
                    break;
                }
            }
            return gone;
        }

        static int daysUntil(Valley v, int k) {
            for (int later = 0; later <= MOST_LATER; later++) {
                if (v.could(k, 0, 0, later)) {
                    return later;
                }
            }
            return NONE;
        }

        static int silence(Valley v, int k) {
            if (v.could(k, 0, 0, 0)) {
                return NONE;
            }
            int all = allWithout(v, 0);
            if (!holds(all, k)) {
                return 0;
            }
            // Those outside the peal never help k, so the fewest are among the others in it.
            int others = all & ~(1 << k);
            int best = others;
            for (int still = 1; still < others; still++) {
                if ((still & ~others) == 0 && Integer.bitCount(still) < Integer.bitCount(best)
                        && !holds(allWithout(v, still), k)) {
                    best = still;
                }
            }
            return best;
        }

        static int ring(Valley v, int i) {
            int reached = 1 << i;
            for (int n = 1; n <= v.people; n++) {
                reached = wronged(v, reached);
                if (holds(reached, i)) {
                    return n;
                }
            }
            return NONE;
        }

        private static int wronged(Valley v, int doers) {
            int bits = 0;
            for (int k = 0; k < v.wrongs; k++) {
                if (!holds(v.letOff, k) && holds(doers, v.by[k])) {
                    bits |= 1 << v.to[k];
                }
            }
            return bits;
        }

        static int letOffBySeed(Valley v, int seed, int n) {
            long x = seed;
            int gone = 0;
            for (int later = 0; later < n; later++) {
                x = (x * 1103515245L + 12345L) % 2147483648L;
                int k = (int) (x / 65536L % 8L);
                if (v.hasWrong(k) && v.could(k, gone, gone, later)) {
                    gone |= 1 << k;
                }
            }
            return Integer.bitCount(v.letOff | gone);
        }
    }

    /** The first of the shortest rows of strokes today that end with a told wrong. */
    private static final class Row {
        static final int NEVER = 100;
        private final int[] left = new int[1 << MOST_WRONGS];

        /** Fills how many strokes are left, for each set of wrongs let off meanwhile. */
        int size(Valley v, int k) {
            if (holds(v.letOff, k)) {
                return 0;
            }
            for (int gone = v.allWrongs(); gone >= 0; gone--) {
                left[gone] = holds(gone, k) ? 0 : fewestFrom(v, gone);
            }
            return left[0];
        }

        private int fewestFrom(Valley v, int gone) {
            int best = NEVER;
            for (int w = 0; w < v.wrongs; w++) {
                if (v.could(w, gone, gone, 0)) {
                    best = Math.min(best, 1 + left[gone | 1 << w]);
                }
            }
            return best;
        }

        /** The n-th stroke of the row that size has measured last; n is below that size. */
        int stroke(Valley v, int n) {
            int gone = 0;
            int w = NONE;
            for (int step = 0; step <= n; step++) {
                w = firstOnTheWay(v, gone);
                if (w == NONE) {
                    return NONE;
                }
                gone |= 1 << w;
            }
            return w;
        }

        private int firstOnTheWay(Valley v, int gone) {
            for (int w = 0; w < v.wrongs; w++) {
                if (v.could(w, gone, gone, 0) && left[gone | 1 << w] == left[gone] - 1) {
                    return w;
                }
            }
            return NONE;
        }
    }

    /** What fits all that was told of a wrong or of one, and what to look at next. */
    private static final class Guess {
        private static final int NONE_YET = 100;
        private final int[] values = new int[KINDS];

        static int gravities(Valley v, int k) {
            int fit = 0;
            for (int g = 1; g <= GRAVEST; g++) {
                if (fitsAllSeen(v, k, g)) {
                    fit |= 1 << g;
                }
            }
            return fit;
        }

        private static boolean fitsAllSeen(Valley v, int k, int g) {
            for (int n = 0; n < v.seen.size; n++) {
                if (v.seen.cell(n, 0) == k) {
                    int weight = Kinds.weight(v.kind[k], g, v.seen.cell(n, 1));
                    boolean wasOff = v.seen.cell(n, 3) == 1;
                    if (weight <= v.seen.cell(n, 2) != wasOff) {
                        return false;
                    }
                }
            }
            return true;
        }

        static int nextSight(Valley v, int k) {
            int fit = gravities(v, k);
            if (fit == 0) {
                return NONE;
            }
            int best = NONE;
            int least = NONE_YET;
            for (int d = 0; d <= 9; d++) {
                for (int l = 0; l <= 20; l++) {
                    int part = greaterPart(v.kind[k], fit, d, l);
                    if (part < least) {
                        least = part;
                        best = 100 * d + l;
                    }
                }
            }
            return best;
        }

        private static int greaterPart(int kind, int fit, int d, int l) {
            int off = 0;
            int not = 0;
            for (int g = 1; g <= GRAVEST; g++) {
                if (holds(fit, g)) {
                    if (Kinds.weight(kind, g, d) <= l) {
                        off++;
                    } else {
                        not++;
                    }
                }
            }
            return Math.max(off, not);
        }

        static int wrongKinds(Valley v, int k) {
            int fit = (1 << KINDS) - 1;
            for (int n = 0; n < v.notes.size; n++) {
                for (int kind = 0; kind < KINDS; kind++) {
                    if (v.notes.cell(n, 0) == k && v.notes.cell(n, 3)
                            != Kinds.weight(kind, v.notes.cell(n, 1), v.notes.cell(n, 2))) {
                        fit &= ~(1 << kind);
                    }
                }
            }
            return fit;
        }

        static int peopleKinds(Valley v, int i) {
            int fit = (1 << KINDS) - 1;
            for (int n = 0; n < v.marks.size; n++) {
                for (int kind = 0; kind < KINDS; kind++) {
                    if (v.marks.cell(n, 0) == i && v.marks.cell(n, 3)
                            != Kinds.mercy(kind, v.marks.cell(n, 1), v.marks.cell(n, 2))) {
                        fit &= ~(1 << kind);
                    }
                }
            }
            return fit;
        }

        int nextLook(Valley v, int k) {
            int fit = wrongKinds(v, k);
            if (fit == 0) {
                return NONE;
            }
            int best = NONE;
            int fewest = NONE_YET;
            for (int d = 0; d <= 30; d++) {
                for (int kind = 0; kind < KINDS; kind++) {
                    values[kind] = Kinds.weight(kind, v.gravity[k], d);
                }
                int alike = mostAlike(fit);
                if (alike < fewest) {
                    fewest = alike;
                    best = d;
                }
            }
            return best;
        }

        int nextAsk(Valley v, int i) {
            int fit = peopleKinds(v, i);
            if (fit == 0) {
                return NONE;
            }
            int best = NONE;
            int fewest = NONE_YET;
            for (int r = 0; r <= 5; r++) {
                for (int t = 0; t <= 30; t++) {
                    for (int kind = 0; kind < KINDS; kind++) {
                        values[kind] = Kinds.mercy(kind, r, t);
                    }
                    int alike = mostAlike(fit);
                    if (alike < fewest) {
                        fewest = alike;
                        best = 100 * r + t;
                    }
                }
            }
            return best;
        }

        private int mostAlike(int fit) {
            int most = 0;
            for (int kind = 0; kind < KINDS; kind++) {
                int alike = 0;
                for (int other = 0; other < KINDS; other++) {
                    if (holds(fit, kind) && holds(fit, other) && values[kind] == values[other]) {
                        alike++;
                    }
                }
                most = Math.max(most, alike);
            }
            return most;
        }
    }

    /** Two who each let the other off or hold. */
    private static final class Pair {
        /** Pairs as bits: a lets off in those with bit 0 set, b in those with bit 1 set. */
        static int resting(boolean aIsStrict, boolean bIsStrict) {
            int bits = 0;
            for (int pair = 0; pair < 4; pair++) {
                boolean a = holds(pair, 0);
                boolean b = holds(pair, 1);
                if (gain(a, b, aIsStrict) >= gain(!a, b, aIsStrict)
                        && gain(b, a, bIsStrict) >= gain(!b, a, bIsStrict)) {
                    bits |= 1 << pair;
                }
            }
            return bits;
        }

        private static int gain(boolean self, boolean other, boolean isStrict) {
            int gain = 0;
            if (other) {
                gain += 6;
            }
            if (self) {
                gain -= isStrict ? 2 + 9 : 2;
            }
            if (self && other) {
                gain += 3;
            }
            if (!self && !other) {
                gain -= 4;
            }
            return gain;
        }
    }

    /** The fraction, in lowest terms. */
    private static final class Chance {
        long above;
        long below = 1;

        void ofRust(Valley v, int k, int wrongs, int c) {
            long good = 0;
            long all = 1;
            for (int n = 0; n < Integer.bitCount(wrongs); n++) {
                all *= 10;
            }
            for (int silent = 0; silent <= wrongs; silent++) {
                if ((silent & ~wrongs) == 0 && couldBehind(v, k, wrongs, silent)) {
                    good += ways(wrongs, silent, c);
                }
            }
            set(good, all);
        }

        private static boolean couldBehind(Valley v, int k, int wrongs, int silent) {
            int sounded = 0;
            for (int w = 0; w < v.wrongs; w++) {
                // Each has one stroke and k has none, so that only who was rung matters.
                if (holds(wrongs, w) && !holds(silent, w) && v.could(w, 0, sounded, 0)) {
                    sounded |= 1 << w;
                }
            }
            return v.could(k, 0, sounded, 0);
        }

        private static long ways(int wrongs, int silent, int c) {
            long product = 1;
            for (int w = 0; w < MOST_WRONGS; w++) {
                if (holds(wrongs, w)) {
                    product *= holds(silent, w) ? c : 10 - c;
                }
            }
            return product;
        }

        private void set(long good, long all) {
            long common = greatestDivisor(good, all);
            above = common > 1 ? good / common : good;
            below = common > 1 ? all / common : all;
        }

        private static long greatestDivisor(long a, long b) {
            long x = a;
            long y = b;
            for (int n = 0; n < 1000 && y != 0; n++) {
                long rest = x % y;
                x = y;
                y = rest;
            }
            return x;
        }
    }

    /** The text and its tokens, one after the other. */
    private static final class Text {
        static final int END = 0, WORD = 1, NUMBER = 2, STOP = 3, NEITHER = 4;
        static final int VALLEY = 0, ONE = 1, WRONG = 2, RING = 3, DAYS = 4;
        private static final int WORDS = 5;
        private final byte[] bytes = new byte[MOST_BYTES];
        int length;
        private int at;
        int start;
        int token;
        int value;

        /** The caller has seen to it that there is room. */
        int add(int c) {
            bytes[length] = (byte) c;
            length++;
            return length;
        }

        void rewind() {
            at = 0;
        }

        /** Goes to the next token: where it starts, what it is, its number or which word. */
        void step() {
            while (at < length && bytes[at] == ' ') {
                at++;
            }
            start = at;
            value = NONE;
            if (at >= length) {
                token = END;
            } else if (isLetter(bytes[at])) {
                stepWord();
            } else if (isFigure(bytes[at])) {
                stepNumber();
            } else {
                token = bytes[at] == ';' ? STOP : NEITHER;
                at++;
            }
        }

        private static boolean isLetter(int c) {
            return c >= 'a' && c <= 'z';
        }

        private static boolean isFigure(int c) {
            return c >= '0' && c <= '9';
        }

        private void stepWord() {
            while (at < length && isLetter(bytes[at])) {
                at++;
            }
            token = WORD;
            for (int word = 0; word < WORDS; word++) {
                if (reads(name(word))) {
                    value = word;
                }
            }
        }

        private boolean reads(String name) {
            if (name.length() != at - start) {
                return false;
            }
            for (int n = 0; n < name.length(); n++) {
                if (bytes[start + n] != name.charAt(n)) {
                    return false;
                }
            }
            return true;
        }

        private static String name(int word) {
            switch (word) {
                case VALLEY: return "valley";
                case ONE: return "one";
                case WRONG: return "wrong";
                case RING: return "ring";
                default: return "days";
            }
        }

        private void stepNumber() {
            int number = 0;
            while (at < length && isFigure(bytes[at])) {
                // Kept small: a run of three figures or more is no number anyway.
                number = (number * 10 + bytes[at] - '0') % 1000;
                at++;
            }
            token = at - start > 2 ? NEITHER : NUMBER;
            value = number;
        }
    }

    /** Reads a text into a valley of its own, so that all stays as it is if there is a fault. */
    private static final class Reader {
        final Valley draft = new Valley();
        private final int[] given = new int[4];

        /** How many items there are, or NONE: then the text's token starts where the fault is. */
        int items(Text text) {
            draft.empty();
            text.rewind();
            for (int items = 0; items <= MOST_BYTES; items++) {
                text.step();
                if (text.token == Text.END) {
                    return items > 0 ? items : NONE;
                }
                int word = text.value;
                if (text.token != Text.WORD || !canStand(word, items) || !readsNumbers(text, word)) {
                    return NONE;
                }
                text.step();
                if (text.token != Text.STOP) {
                    return NONE;
                }
                carryOut(word);
            }
            return NONE;
        }

        private boolean canStand(int word, int items) {
            switch (word) {
                case Text.VALLEY: return items == 0;
                case Text.ONE: return items > 0 && draft.people < MOST_PEOPLE;
                case Text.WRONG: return items > 0 && draft.wrongs < MOST_WRONGS;
                case Text.RING:
                case Text.DAYS: return items > 0;
                default: return false;
            }
        }

        private boolean readsNumbers(Text text, int word) {
            for (int n = 0; n < numbersOf(word); n++) {
                text.step();
                if (text.token != Text.NUMBER || !fits(word, n, text.value)) {
                    return false;
                }
                given[n] = text.value;
            }
            return true;
        }

        private static int numbersOf(int word) {
            switch (word) {
                case Text.VALLEY: return 0;
                case Text.WRONG: return 4;
                default: return 1;
            }
        }

        private boolean fits(int word, int n, int x) {
            switch (word) {
                case Text.ONE: return x < KINDS;
                case Text.WRONG: return fitsWrong(n, x);
                case Text.RING: return draft.hasWrong(x) && draft.could(x, 0, 0, 0);
                default: return within(x, 1, 99);
            }
        }

        private boolean fitsWrong(int n, int x) {
            switch (n) {
                case 0: return x < KINDS;
                case 1: return draft.hasPerson(x);
                case 2: return draft.hasPerson(x) && x != given[1];
                default: return within(x, 1, GRAVEST);
            }
        }

        private void carryOut(int word) {
            switch (word) {
                case Text.ONE:
                    draft.addPerson(given[0]);
                    break;
                case Text.WRONG:
                    draft.addWrong(given[0], given[1], given[2], given[3]);
                    break;
                case Text.RING:
                    draft.stroke(given[0]);
                    break;
                case Text.DAYS:
                    draft.pass(given[0]);
                    break;
                default:
                    break;
            }
        }
    }
}
