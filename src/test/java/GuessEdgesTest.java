/** The edges of promises 19 to 31: what was seen, noted, marked; two; rust; Easters. */
public final class GuessEdgesTest extends Edges {
    private static final int P = 1 << PLAIN, A = 1 << APPLE, O = 1 << OATH, L = 1 << LATE,
            D = 1 << DEATH, W = 1 << WORD;
    private static final int M = 1 << MILD, H = 1 << HARD, E = 1 << EASTER, G = 1 << GRUDGE,
            U = 1 << OLD;

    private GuessEdgesTest() {
    }

    public static void main(String[] args) {
        runAll(GuessEdgesTest.class);
    }

    /** One WRONG of the kind and GRAVITY told, and one more of which nothing is asked. */
    private static BellForgiven one(int kind, int gravity) {
        BellForgiven x = people(PLAIN, MILD);
        x.wrong(kind, 0, 1, gravity);
        x.wrong(PLAIN, 1, 0, 5);
        return x;
    }

    /** WRONG 0 weighs so much and is to a PLAIN one who did the n others, which weigh 1. */
    private static BellForgiven helped(int gravity, int n) {
        BellForgiven x = people(PLAIN, MILD);
        x.wrong(PLAIN, 1, 0, gravity);
        for (int k = 0; k < n; k++) {
            x.wrong(PLAIN, 0, 1, 1);
        }
        return x;
    }

    // ---- promise 19: seen

    static void promise19_limitsOfTheWrong() {
        limits(Edges::told, (x, k) -> x.seen(k, 1, 1, 1), 0, 5);
        refuses(() -> people(OLD, OLD), x -> x.seen(0, 0, 0, 0), BAD);
    }

    static void promise19_limitsOfTheDays() {
        limits(Edges::told, (x, d) -> x.seen(1, d, 1, 1), 0, 99);
    }

    static void promise19_limitsOfWhatOneLetsOff() {
        limits(Edges::told, (x, l) -> x.seen(1, 1, l, 0), 0, 40);
    }

    static void promise19_limitsOfLetOffOrNot() {
        limits(Edges::told, (x, off) -> x.seen(1, 1, 1, off), 0, 1);
    }

    static void promise19_fifthComesASixthIsFull() {
        BellForgiven x = one(PLAIN, 5);
        for (int n = 1; n <= 5; n++) {
            due(x.seen(n % 2, n, n, n % 2), n);
        }
        due(x.seen(0, 0, 0, 0), FULL);
        due(x.seen(1, 0, 0, 0), FULL);
        due(x.count(6), 5);
        statuses(x, 0, 0, 2);
    }

    static void promise19_fullChangesNothing() {
        refuses(Edges::full, x -> x.seen(0, 0, 0, 0), FULL);
        refuses(Edges::full, x -> x.seen(7, 99, 40, 1), FULL);
    }

    static void promise19_badIsAheadOfFull() {
        refuses(Edges::full, x -> x.seen(8, 0, 0, 0), BAD);
        refuses(Edges::full, x -> x.seen(0, 100, 0, 0), BAD);
        refuses(Edges::full, x -> x.seen(0, 0, 41, 0), BAD);
        refuses(Edges::full, x -> x.seen(0, 0, 0, 2), BAD);
    }

    static void promise19_asToldFromTheLeastToTheMost() {
        BellForgiven x = one(PLAIN, 5);
        long before = x.digest();
        x.seen(1, 99, 40, 1);
        x.seen(0, 0, 0, 0);
        due(x.count(6), 2);
        x.forget(0);
        due(x.digest(), before);
    }

    static void promise19_alsoOfAWrongThatWasLetOff() {
        BellForgiven x = rungBy(1, PLAIN);
        due(x.seen(0, 1, 1, 0), 1);
        due(x.count(9), 1);
    }

    // ---- promise 20: grave

    static void promise20_limitsOfTheWrong() {
        limits(Edges::told, (x, k) -> x.grave(k, 0), 0, 5);
        limits(Edges::full, (x, k) -> x.grave(k, 2), 0, 7);
        refuses(() -> people(OLD, OLD), x -> x.grave(0, 0), BAD);
    }

    static void promise20_limitsOfWhat() {
        limits(Edges::told, (x, what) -> x.grave(0, what), 0, 2);
        limits(Edges::full, (x, what) -> x.grave(7, what), 0, 2);
    }

    private static void graves(BellForgiven x, int many, int least, int greatest) {
        due(x.grave(0, 0), many);
        due(x.grave(0, 1), least);
        due(x.grave(0, 2), greatest);
    }

    static void promise20_noneSeenAllNine() {
        for (int kind = 0; kind < 6; kind++) {
            graves(one(kind, 1), 9, 1, 9);
        }
    }

    static void promise20_whatWasLetOffWeighedNoMore() {
        for (int l = 1; l <= 9; l++) {
            BellForgiven x = one(PLAIN, 9);
            x.seen(0, 0, l, 1);
            graves(x, l, 1, l);
        }
    }

    static void promise20_whatWasNotLetOffWeighedMore() {
        for (int l = 0; l < 9; l++) {
            BellForgiven x = one(PLAIN, 1);
            x.seen(0, 0, l, 0);
            graves(x, 9 - l, l + 1, 9);
        }
    }

    static void promise20_noneFits() {
        BellForgiven x = one(PLAIN, 5);
        x.seen(0, 0, 0, 1);
        graves(x, 0, NONE, NONE);
        x.forget(0);
        x.seen(0, 0, 9, 0);
        graves(x, 0, NONE, NONE);
        statuses(x, 0, 0, 0);
    }

    static void promise20_allFitTheFarthestLimits() {
        for (int kind = 0; kind < 6; kind++) {
            BellForgiven x = one(kind, 5);
            x.seen(0, 99, 40, 1);
            x.seen(0, 0, 40, 1);
            x.seen(0, 0, 0, 0);
            graves(x, 9, 1, 9);
        }
    }

    static void promise20_allSeenOfItAreSo() {
        BellForgiven x = one(PLAIN, 5);
        x.seen(0, 0, 6, 1);
        x.seen(0, 9, 3, 0);
        graves(x, 3, 4, 6);
        x.seen(0, 1, 8, 1);
        x.seen(0, 1, 1, 0);
        graves(x, 3, 4, 6);
        x.seen(0, 50, 5, 0);
        graves(x, 1, 6, 6);
    }

    static void promise20_theFifthSeenCountsToo() {
        BellForgiven x = one(PLAIN, 5);
        for (int n = 0; n < 4; n++) {
            x.seen(0, 0, 9, 1);
        }
        graves(x, 9, 1, 9);
        x.seen(0, 0, 1, 1);
        graves(x, 1, 1, 1);
    }

    static void promise20_ofOthersNothingIsLearnt() {
        BellForgiven x = one(PLAIN, 5);
        x.seen(1, 0, 4, 1);
        x.seen(1, 0, 3, 0);
        graves(x, 9, 1, 9);
        due(x.grave(1, 0), 1);
        due(x.grave(1, 1), 4);
        due(x.grave(1, 2), 4);
    }

    static void promise20_itsKindAsItIs() {
        int[][] want = {{4, 1, 4}, {6, 1, 6}, {3, 1, 3}, {6, 1, 6}, {1, 1, 1}, {6, 1, 6}};
        for (int kind = 0; kind < 6; kind++) {
            BellForgiven x = one(kind, 9);
            x.seen(0, 6, 4, 1);
            graves(x, want[kind][0], want[kind][1], want[kind][2]);
        }
    }

    static void promise20_itsKindOnLateDays() {
        int[][] want = {{5, 1, 5}, {9, 1, 9}, {0, NONE, NONE}, {9, 1, 9}, {0, NONE, NONE}, {9, 1, 9}};
        for (int kind = 0; kind < 6; kind++) {
            BellForgiven x = one(kind, 9);
            x.seen(0, 25, 5, 1);
            graves(x, want[kind][0], want[kind][1], want[kind][2]);
        }
    }

    static void promise20_aLateOneWeighs2AtLeast() {
        BellForgiven x = one(LATE, 5);
        x.seen(0, 0, 2, 1);
        graves(x, 2, 1, 2);
        x.seen(0, 0, 1, 1);
        graves(x, 0, NONE, NONE);
        BellForgiven y = one(LATE, 5);
        y.seen(0, 0, 1, 0);
        graves(y, 9, 1, 9);
    }

    static void promise20_aWordOnItsSeventhDay() {
        BellForgiven x = one(WORD, 5);
        x.seen(0, 7, 0, 1);
        graves(x, 9, 1, 9);
        x.seen(0, 7, 0, 0);
        graves(x, 0, NONE, NONE);
        BellForgiven y = one(WORD, 5);
        y.seen(0, 6, 0, 1);
        graves(y, 2, 1, 2);
        BellForgiven z = one(WORD, 5);
        z.seen(0, 0, 0, 1);
        graves(z, 0, NONE, NONE);
    }

    static void promise20_itsOwnGravityAndAgeDoNotCount() {
        for (int g = 1; g <= 9; g++) {
            BellForgiven x = one(APPLE, g);
            x.days(30);
            x.seen(0, 0, 3, 1);
            graves(x, 3, 1, 3);
        }
    }

    static void promise20_changesNothing() {
        for (int n = 0; n < 3; n++) {
            int what = n;
            changesNothing(Edges::told, x -> x.grave(1, what));
        }
    }

    // ---- promise 21: tell

    static void promise21_limitsOfTheWrong() {
        limits(Edges::told, (x, k) -> x.tell(k), 0, 5);
        limits(Edges::full, (x, k) -> x.tell(k), 0, 7);
        refuses(() -> people(OLD, OLD), x -> x.tell(0), BAD);
    }

    static void promise21_noneIfThereIsNoGravity() {
        BellForgiven x = one(PLAIN, 5);
        x.seen(0, 0, 0, 1);
        due(x.tell(0), NONE);
        due(x.tell(1), 4);
        statuses(x, 0, 0, 0);
        x.forget(0);
        due(x.tell(0), 4);
    }

    static void promise21_oneGravityIsToldAtOnce() {
        for (int g = 1; g <= 9; g++) {
            BellForgiven x = one(PLAIN, 5);
            x.seen(0, 0, g, 1);
            x.seen(0, 0, g - 1, 0);
            due(x.grave(0, 0), 1);
            due(x.tell(0), 0);
        }
    }

    static void promise21_ofLikeOnesTheLeast() {
        int[] want = {4, 4, 4, 4, 8, 4};
        for (int kind = 0; kind < 6; kind++) {
            due(one(kind, 5).tell(0), want[kind]);
        }
    }

    static void promise21_theLastTwo() {
        int[] want = {8, 8, 8, 8, 16, 8};
        int[] seven = {7, 7, 7, 7, 14, 7};
        for (int kind = 0; kind < 6; kind++) {
            BellForgiven x = one(kind, 5);
            x.seen(0, 0, seven[kind], 0);
            due(x.grave(0, 0), 2);
            due(x.tell(0), want[kind]);
        }
    }

    static void promise21_theFirstTwo() {
        BellForgiven x = one(PLAIN, 5);
        x.seen(0, 0, 2, 1);
        due(x.tell(0), 1);
        BellForgiven y = one(DEATH, 5);
        y.seen(0, 0, 4, 1);
        due(y.tell(0), 2);
    }

    static void promise21_whatCanNotBeToldApart() {
        BellForgiven x = one(LATE, 5);
        x.seen(0, 0, 2, 1);
        due(x.grave(0, 0), 2);
        due(x.tell(0), 0);
    }

    static void promise21_ofThreeTheGreaterPartIs2() {
        BellForgiven x = one(PLAIN, 5);
        x.seen(0, 0, 3, 1);
        due(x.tell(0), 1);
        BellForgiven y = one(LATE, 5);
        y.seen(0, 0, 3, 1);
        due(y.tell(0), 2);
    }

    static void promise21_changesNothing() {
        changesNothing(Edges::told, x -> x.tell(1));
        changesNothing(Edges::told, x -> x.tell(4));
    }

    // ---- promise 22: note

    static void promise22_limitsOfTheWrong() {
        limits(Edges::told, (x, k) -> x.note(k, 1, 1, 1), 0, 5);
        refuses(() -> people(OLD, OLD), x -> x.note(0, 1, 0, 0), BAD);
    }

    static void promise22_limitsOfTheGravity() {
        limits(Edges::told, (x, g) -> x.note(1, g, 1, 1), 1, 9);
    }

    static void promise22_limitsOfTheDays() {
        limits(Edges::told, (x, d) -> x.note(1, 1, d, 1), 0, 99);
    }

    static void promise22_limitsOfWhatItWeighed() {
        limits(Edges::told, (x, w) -> x.note(1, 1, 1, w), 0, 40);
    }

    static void promise22_sixthComesASeventhIsFull() {
        BellForgiven x = one(PLAIN, 5);
        for (int n = 1; n <= 6; n++) {
            due(x.note(n % 2, n, n, n), n);
        }
        due(x.note(0, 1, 0, 0), FULL);
        due(x.note(1, 1, 0, 0), FULL);
        due(x.count(7), 6);
        statuses(x, 0, 0, 2);
    }

    static void promise22_fullChangesNothing() {
        refuses(Edges::full, x -> x.note(0, 1, 0, 0), FULL);
        refuses(Edges::full, x -> x.note(7, 9, 99, 40), FULL);
    }

    static void promise22_badIsAheadOfFull() {
        refuses(Edges::full, x -> x.note(8, 1, 0, 0), BAD);
        refuses(Edges::full, x -> x.note(0, 0, 0, 0), BAD);
        refuses(Edges::full, x -> x.note(0, 10, 0, 0), BAD);
        refuses(Edges::full, x -> x.note(0, 1, 100, 0), BAD);
        refuses(Edges::full, x -> x.note(0, 1, 0, 41), BAD);
    }

    static void promise22_theSixthCountsToo() {
        BellForgiven x = one(PLAIN, 5);
        for (int n = 0; n < 5; n++) {
            x.note(0, 5, 0, 5);
        }
        due(x.is(0), P | A | O | L | W);
        x.note(0, 9, 25, 14);
        due(x.is(0), O);
    }

    // ---- promise 23: mark

    static void promise23_limitsOfWho() {
        limits(Edges::told, (x, i) -> x.mark(i, 1, 1, 1), 0, 3);
        refuses(BellForgiven::new, x -> x.mark(0, 0, 0, 0), BAD);
    }

    static void promise23_limitsOfRung() {
        limits(Edges::told, (x, r) -> x.mark(1, r, 1, 1), 0, 9);
    }

    static void promise23_limitsOfTheDay() {
        limits(Edges::told, (x, t) -> x.mark(1, 1, t, 1), 0, 99);
    }

    static void promise23_limitsOfWhatOneLetOff() {
        limits(Edges::told, (x, w) -> x.mark(1, 1, 1, w), 0, 60);
    }

    static void promise23_sixthComesASeventhIsFull() {
        BellForgiven x = one(PLAIN, 5);
        for (int n = 1; n <= 6; n++) {
            due(x.mark(n % 2, n, n, n), n);
        }
        due(x.mark(0, 0, 0, 0), FULL);
        due(x.mark(1, 0, 0, 0), FULL);
        due(x.count(8), 6);
        statuses(x, 0, 0, 2);
    }

    static void promise23_fullChangesNothing() {
        refuses(Edges::full, x -> x.mark(0, 0, 0, 0), FULL);
        refuses(Edges::full, x -> x.mark(5, 9, 99, 60), FULL);
    }

    static void promise23_badIsAheadOfFull() {
        refuses(Edges::full, x -> x.mark(6, 0, 0, 0), BAD);
        refuses(Edges::full, x -> x.mark(0, 10, 0, 0), BAD);
        refuses(Edges::full, x -> x.mark(0, 0, 100, 0), BAD);
        refuses(Edges::full, x -> x.mark(0, 0, 0, 61), BAD);
    }

    static void promise23_theSixthCountsToo() {
        BellForgiven x = one(PLAIN, 5);
        for (int n = 0; n < 5; n++) {
            x.mark(0, 0, 1, 1);
        }
        due(x.kinds(0), H | E | G);
        x.mark(0, 0, 0, 30);
        due(x.kinds(0), E);
    }

    // ---- promise 24: forget

    static void promise24_limitsOfWhat() {
        limits(Edges::told, (x, what) -> x.forget(what), 0, 2);
        limits(Edges::full, (x, what) -> x.forget(what), 0, 2);
    }

    static void promise24_0IfThereAreNone() {
        BellForgiven x = one(PLAIN, 5);
        for (int what = 0; what < 3; what++) {
            due(x.forget(what), 0);
        }
        statuses(x, 0, 0, 0);
    }

    static void promise24_asManyAsThereCanBe() {
        BellForgiven x = full();
        due(x.forget(0), 5);
        due(x.forget(1), 6);
        due(x.forget(2), 6);
        for (int what = 0; what < 3; what++) {
            due(x.forget(what), 0);
        }
    }

    static void promise24_theOthersStay() {
        int[][] left = {{0, 6, 6}, {5, 0, 6}, {5, 6, 0}};
        for (int what = 0; what < 3; what++) {
            BellForgiven x = full();
            x.forget(what);
            for (int n = 0; n < 3; n++) {
                due(x.count(6 + n), left[what][n]);
            }
            due(x.count(9), 2);
        }
    }

    static void promise24_asManyCanBeToldAgain() {
        BellForgiven x = full();
        x.forget(0);
        x.forget(1);
        x.forget(2);
        for (int n = 1; n <= 6; n++) {
            due(x.seen(0, 0, 0, 0), n < 6 ? n : FULL);
            due(x.note(0, 1, 0, 0), n);
            due(x.mark(0, 0, 0, 0), n);
        }
        due(x.note(0, 1, 0, 0), FULL);
        due(x.mark(0, 0, 0, 0), FULL);
    }

    static void promise24_whatIsForgottenFitsNoMore() {
        BellForgiven x = one(PLAIN, 5);
        x.seen(0, 0, 0, 1);
        x.note(0, 1, 0, 40);
        x.mark(0, 0, 0, 60);
        due(x.grave(0, 0), 0);
        x.forget(0);
        due(x.grave(0, 0), 9);
        due(x.is(0), 0);
        x.forget(1);
        due(x.is(0), 63);
        due(x.kinds(0), 0);
        x.forget(2);
        due(x.kinds(0), 63);
    }

    // ---- promise 25: is

    static void promise25_limitsOfTheWrong() {
        limits(Edges::told, (x, k) -> x.is(k), 0, 5);
        limits(Edges::full, (x, k) -> x.is(k), 0, 7);
        refuses(() -> people(OLD, OLD), x -> x.is(0), BAD);
    }

    static void promise25_allKindsWithoutNotes() {
        due(one(DEATH, 1).is(0), 63);
        due(one(PLAIN, 9).is(1), 63);
    }

    private static void is(int g, int d, int x, int want) {
        BellForgiven v = one(PLAIN, 5);
        v.note(0, g, d, x);
        due(v.is(0), want);
        due(v.is(1), 63);
    }

    static void promise25_onItsDay0() {
        is(5, 0, 5, P | A | O | L | W);
        is(5, 0, 10, D);
        is(1, 0, 1, P | A | O | W);
        is(1, 0, 2, L | D);
        is(2, 0, 2, P | A | O | L | W);
        is(1, 0, 0, 0);
        is(9, 0, 18, D);
    }

    static void promise25_wholeThreeDaysOfAnApple() {
        is(5, 2, 5, P | A | O | L | W);
        is(5, 3, 5, P | O);
        is(5, 3, 4, A | L | W);
        is(5, 5, 4, A | L | W);
        is(5, 6, 3, A | L | W);
    }

    static void promise25_anAppleWeighs0AtLeast() {
        is(1, 3, 0, A | W);
        is(1, 6, 0, A | W);
        is(9, 26, 1, A | W);
        is(9, 27, 0, A | W);
        is(9, 99, 0, A | W);
    }

    static void promise25_aLateOneWeighs2AtLeast() {
        is(5, 9, 2, A | L | W);
        is(5, 12, 2, L);
        is(5, 12, 1, A | W);
        is(9, 99, 2, L);
    }

    static void promise25_wholeFiveDaysOfAnOath() {
        is(5, 4, 5, P | O);
        is(5, 5, 5, P);
        is(5, 5, 6, O);
        is(5, 9, 6, O);
        is(5, 10, 7, O);
    }

    static void promise25_anOathWeighs5MoreAtMost() {
        is(5, 24, 9, O);
        is(5, 25, 10, O);
        is(5, 30, 10, O);
        is(5, 30, 11, 0);
        is(5, 99, 10, O);
    }

    static void promise25_aDeathWeighsTwice() {
        is(9, 24, 26, D);
        is(9, 25, 28, D);
        is(9, 99, 28, D);
        is(9, 99, 27, 0);
    }

    static void promise25_aWordOnItsSeventhDay() {
        is(9, 6, 7, A | L | W);
        is(9, 7, 7, A | L);
        is(9, 7, 0, W);
        is(9, 8, 7, A | L | W);
        is(9, 14, 0, W);
        is(9, 0, 0, 0);
        is(9, 0, 9, P | A | O | L | W);
    }

    static void promise25_noneFits() {
        is(9, 99, 40, 0);
        is(1, 0, 3, 0);
    }

    static void promise25_allNotesOfItAreSo() {
        BellForgiven x = one(PLAIN, 5);
        x.note(0, 5, 3, 4);
        due(x.is(0), A | L | W);
        x.note(0, 9, 7, 7);
        due(x.is(0), A | L);
        x.note(1, 1, 0, 3);
        due(x.is(0), A | L);
        x.note(0, 1, 0, 2);
        due(x.is(0), L);
        x.note(0, 1, 0, 1);
        due(x.is(0), 0);
        due(x.is(1), 0);
    }

    static void promise25_changesNothing() {
        changesNothing(Edges::told, x -> x.is(1));
        changesNothing(Edges::told, x -> x.is(3));
    }

    // ---- promise 26: look

    static void promise26_limitsOfTheWrong() {
        limits(Edges::told, (x, k) -> x.look(k), 0, 5);
        limits(Edges::full, (x, k) -> x.look(k), 0, 7);
        refuses(() -> people(OLD, OLD), x -> x.look(0), BAD);
    }

    /** Notes by which the KINDS told are left: g, d, x, one behind the other. */
    private static void looks(int gravity, int kinds, int want, int... notes) {
        BellForgiven x = one(PLAIN, gravity);
        for (int n = 0; n < notes.length; n += 3) {
            x.note(0, notes[n], notes[n + 1], notes[n + 2]);
        }
        due(x.is(0), kinds);
        due(x.look(0), want);
        statuses(x, 0, 0, 0);
    }

    static void promise26_noneIfThereIsNoKind() {
        looks(5, 0, NONE, 1, 0, 0);
        looks(5, 0, NONE, 9, 99, 40);
    }

    static void promise26_oneKindAtOnce() {
        looks(5, P, 0, 5, 5, 5);
        looks(5, A, 0, 9, 7, 7, 5, 12, 1);
        looks(5, O, 0, 5, 5, 6);
        looks(5, L, 0, 5, 12, 2);
        looks(5, D, 0, 5, 0, 10);
        looks(5, W, 0, 9, 7, 0);
    }

    static void promise26_plainOrOathOnTheFifthDay() {
        looks(1, P | O, 5, 5, 3, 5);
        looks(9, P | O, 5, 5, 3, 5);
    }

    static void promise26_appleOrWordOnTheSeventhDay() {
        looks(9, A | W, 7, 5, 12, 1);
        looks(3, A | W, 7, 5, 12, 1);
    }

    static void promise26_whatCanNotBeToldApart() {
        looks(2, A | W, 0, 5, 12, 1);
        looks(1, A | W, 0, 5, 12, 1);
    }

    static void promise26_appleOrLateByItsGravity() {
        looks(9, A | L, 24, 9, 7, 7);
        looks(8, A | L, 21, 9, 7, 7);
        looks(2, A | L, 3, 9, 7, 7);
        looks(1, A | L, 0, 9, 7, 7);
    }

    static void promise26_lateOrDeathByItsGravity() {
        looks(9, L | D, 0, 1, 0, 2);
        looks(2, L | D, 0, 1, 0, 2);
        looks(1, L | D, 5, 1, 0, 2);
    }

    static void promise26_ofLikeOnesTheLeast() {
        looks(9, A | L | W, 7, 5, 3, 4);
        looks(9, P | A | O | L | W, 7, 5, 0, 5);
        looks(9, 63, 7);
        looks(1, 63, 3);
    }

    static void promise26_itsKindAndAgeDoNotCount() {
        BellForgiven x = people(PLAIN, MILD);
        x.wrong(DEATH, 0, 1, 9);
        x.days(24);
        x.note(0, 9, 7, 7);
        due(x.look(0), 24);
    }

    static void promise26_changesNothing() {
        changesNothing(Edges::told, x -> x.look(1));
        changesNothing(Edges::told, x -> x.look(3));
    }

    // ---- promise 27: kinds

    static void promise27_limitsOfWho() {
        limits(Edges::told, (x, i) -> x.kinds(i), 0, 3);
        limits(Edges::full, (x, i) -> x.kinds(i), 0, 5);
        refuses(BellForgiven::new, x -> x.kinds(0), BAD);
    }

    static void promise27_allKindsWithoutMarks() {
        due(people(OLD).kinds(0), 63);
    }

    private static void kinds(int r, int t, int x, int want) {
        BellForgiven v = people(PLAIN, OLD);
        v.mark(0, r, t, x);
        due(v.kinds(0), want);
        due(v.kinds(1), 63);
    }

    static void promise27_rungBy0() {
        kinds(0, 1, 2, P);
        kinds(0, 1, 5, M | U);
        kinds(0, 1, 1, H | E | G);
        kinds(0, 1, 0, 0);
    }

    static void promise27_aGrudgeRungBy2OrMore() {
        kinds(1, 1, 1, H | E | G);
        kinds(1, 1, 2, 0);
        kinds(2, 1, 2, H | E);
        kinds(2, 1, 3, G);
        kinds(3, 1, 3, G);
        kinds(3, 1, 2, H | E);
    }

    static void promise27_halfIsCut() {
        kinds(0, 1, 1, H | E | G);
        kinds(1, 1, 1, H | E | G);
        kinds(8, 1, 5, H | E);
        kinds(9, 1, 5, H | E);
        kinds(9, 1, 6, G);
    }

    static void promise27_easterOnDaysThat30Divides() {
        kinds(0, 0, 30, E);
        kinds(0, 0, 1, H | G);
        kinds(9, 0, 30, E);
        kinds(0, 29, 30, 0);
        kinds(0, 29, 1, H | E | G);
        kinds(0, 30, 30, E);
        kinds(0, 30, 1, H | G);
        kinds(0, 31, 1, H | E | G);
        kinds(0, 60, 30, E);
        kinds(0, 90, 30, E);
        kinds(0, 99, 30, 0);
    }

    static void promise27_wholeTenDaysOfAnOldOne() {
        kinds(0, 9, 5, M | U);
        kinds(0, 10, 5, M);
        kinds(0, 10, 6, U);
        kinds(0, 19, 6, U);
        kinds(0, 20, 7, U);
        kinds(0, 89, 13, U);
        kinds(0, 90, 14, U);
        kinds(0, 99, 14, U);
    }

    static void promise27_theFarthestMark() {
        kinds(9, 99, 11, P);
        kinds(9, 99, 14, M);
        kinds(9, 99, 5, H | E);
        kinds(9, 99, 6, G);
        kinds(9, 99, 23, U);
        kinds(9, 99, 60, 0);
    }

    static void promise27_allMarksOfThatOneAreSo() {
        BellForgiven x = people(PLAIN, OLD);
        x.mark(0, 0, 1, 1);
        due(x.kinds(0), H | E | G);
        x.mark(1, 0, 0, 30);
        due(x.kinds(0), H | E | G);
        x.mark(0, 2, 1, 2);
        due(x.kinds(0), H | E);
        x.mark(0, 0, 0, 1);
        due(x.kinds(0), H);
        x.mark(0, 0, 0, 30);
        due(x.kinds(0), 0);
        due(x.kinds(1), E);
    }

    static void promise27_changesNothing() {
        changesNothing(Edges::told, x -> x.kinds(2));
        changesNothing(Edges::told, x -> x.kinds(3));
    }

    // ---- promise 28: ask

    static void promise28_limitsOfWho() {
        limits(Edges::told, (x, i) -> x.ask(i), 0, 3);
        limits(Edges::full, (x, i) -> x.ask(i), 0, 5);
        refuses(BellForgiven::new, x -> x.ask(0), BAD);
    }

    /** Marks by which the KINDS told are left: r, t, x, one behind the other. */
    private static void asks(int kinds, int want, int... marks) {
        BellForgiven x = people(PLAIN, OLD);
        for (int n = 0; n < marks.length; n += 3) {
            x.mark(0, marks[n], marks[n + 1], marks[n + 2]);
        }
        due(x.kinds(0), kinds);
        due(x.ask(0), want);
        statuses(x, 0, 0, 0);
    }

    static void promise28_noneIfThereIsNoKind() {
        asks(0, NONE, 0, 1, 0);
        asks(0, NONE, 9, 99, 60);
    }

    static void promise28_oneKindAtOnce() {
        asks(P, 0, 0, 1, 2);
        asks(M, 0, 0, 10, 5);
        asks(H, 0, 0, 0, 1, 2, 1, 2);
        asks(E, 0, 0, 0, 30);
        asks(G, 0, 2, 1, 3);
        asks(U, 0, 0, 10, 6);
    }

    static void promise28_mildOrOldOnTheTenthDay() {
        asks(M | U, 10, 0, 1, 5);
    }

    static void promise28_hardOrEasterOnDay0() {
        asks(H | E, 0, 2, 1, 2);
    }

    static void promise28_hardOrGrudgeRungBy2() {
        asks(H | G, 200, 0, 0, 1);
    }

    static void promise28_hardEasterOrGrudgeRungBy2OnDay0() {
        asks(H | E | G, 200, 0, 1, 1);
    }

    static void promise28_allRungBy2OnDay30() {
        asks(63, 230);
    }

    static void promise28_onesOwnKindRungAndDayDoNotCount() {
        BellForgiven x = rungBy(3, GRUDGE);
        x.days(10);
        due(x.ask(0), 230);
        due(x.ask(1), 230);
    }

    static void promise28_changesNothing() {
        changesNothing(Edges::told, x -> x.ask(2));
        changesNothing(Edges::told, x -> x.ask(3));
    }

    // ---- promise 29: first

    static void promise29_limitsOfTheFirst() {
        limits(Edges::told, (x, a) -> x.first(a, 1), 0, 3);
        limits(Edges::full, (x, a) -> x.first(a, 1), 0, 5);
    }

    static void promise29_limitsOfTheSecond() {
        limits(Edges::told, (x, b) -> x.first(1, b), 0, 3);
        limits(Edges::full, (x, b) -> x.first(1, b), 0, 5);
    }

    static void promise29_alikeIsBad() {
        for (int n = 0; n < 4; n++) {
            int i = n;
            refuses(Edges::told, x -> x.first(i, i), BAD);
        }
        refuses(() -> people(OLD), x -> x.first(0, 0), BAD);
        refuses(() -> people(OLD), x -> x.first(0, 1), BAD);
    }

    static void promise29_bothLetOffIfBothLetOff3OrMore() {
        due(people(MILD, OLD).first(0, 1), 1 << 3);
        due(people(MILD, OLD).first(1, 0), 1 << 3);
    }

    static void promise29_aAloneIfBLetsOffLess() {
        due(people(MILD, PLAIN).first(0, 1), 1 << 1);
        due(people(PLAIN, MILD).first(1, 0), 1 << 1);
    }

    static void promise29_bAloneIfALetsOffLess() {
        due(people(PLAIN, MILD).first(0, 1), 1 << 2);
        due(people(MILD, PLAIN).first(1, 0), 1 << 2);
    }

    static void promise29_neitherIfBothLetOffLess() {
        due(people(PLAIN, HARD).first(0, 1), 1);
        due(people(PLAIN, HARD).first(1, 0), 1);
    }

    /** The first letting off 3 or more for the first time when RUNG by r. */
    private static void letsOff3From(int kind, int r) {
        for (int n = 0; n <= 8; n++) {
            BellForgiven x = rungBy(n, kind);
            x.days(1);
            due(x.first(0, 1), n < r ? 1 << 2 : 1 << 3);
            due(x.first(1, 0), n < r ? 1 << 1 : 1 << 3);
        }
    }

    static void promise29_2IsLess3IsNot() {
        letsOff3From(PLAIN, 1);
        letsOff3From(HARD, 4);
        letsOff3From(EASTER, 4);
        letsOff3From(GRUDGE, 2);
        letsOff3From(MILD, 0);
        letsOff3From(OLD, 0);
    }

    static void promise29_whatOneLetsOffNow() {
        BellForgiven x = people(EASTER, OLD);
        int[] days = {29, 1, 1};
        due(x.first(0, 1), 1 << 3);
        due(x.first(1, 0), 1 << 3);
        for (int n : days) {
            boolean isEaster = x.days(n) == 30;
            due(x.first(0, 1), isEaster ? 1 << 3 : 1 << 2);
            due(x.first(1, 0), isEaster ? 1 << 3 : 1 << 1);
        }
    }

    static void promise29_changesNothing() {
        changesNothing(Edges::told, x -> x.first(0, 2));
        changesNothing(Edges::told, x -> x.first(3, 1));
    }

    // ---- promise 30: rust

    static void promise30_limitsOfTheWrong() {
        limits(Edges::told, (x, k) -> x.rust(k, 2, 3), 0, 0);
        limits(Edges::told, (x, k) -> x.rust(k, 1, 3), 1, 5, BAD);
        limits(Edges::full, (x, k) -> x.rust(k, 0, 3), 0, 7);
        refuses(() -> people(OLD, OLD), x -> x.rust(0, 0, 0), BAD);
    }

    static void promise30_limitsOfTheWrongsTold() {
        limits(Edges::told, (x, wrongs) -> x.rust(5, wrongs, 3), 0, 31);
        limits(Edges::told, (x, wrongs) -> x.rust(0, wrongs, 3), 0, 62);
        limits(Edges::full, (x, wrongs) -> x.rust(7, wrongs, 3), 0, 127);
        limits(Edges::full, (x, wrongs) -> x.rust(0, wrongs, 3), 0, 254);
    }

    static void promise30_aWrongToldThatIsNotThereIsBad() {
        refuses(Edges::told, x -> x.rust(0, 64, 3), BAD);
        refuses(Edges::told, x -> x.rust(0, 128, 3), BAD);
        refuses(Edges::told, x -> x.rust(0, 66, 3), BAD);
        refuses(Edges::full, x -> x.rust(0, 256, 3), BAD);
        refuses(Edges::full, x -> x.rust(0, 1 << 30, 3), BAD);
    }

    static void promise30_theWrongItselfToldIsBad() {
        for (int n = 0; n < 6; n++) {
            int k = n;
            refuses(Edges::told, x -> x.rust(k, 1 << k, 3), BAD);
            refuses(Edges::told, x -> x.rust(k, 63, 3), BAD);
        }
    }

    static void promise30_limitsOfTheOdds() {
        limits(Edges::told, (x, c) -> x.rust(1, 1, c), 0, 10);
        limits(Edges::full, (x, c) -> x.rust(0, 254, c), 0, 10);
    }

    private static void rusts(BellForgiven x, int k, int wrongs, int c, long above, long below) {
        due(x.rust(k, wrongs, c), 1);
        fraction(x, above, below);
    }

    static void promise30_noStrokesToldItCanBeOrNot() {
        rusts(helped(2, 0), 0, 0, 3, 1, 1);
        rusts(helped(3, 0), 0, 0, 3, 0, 1);
        rusts(helped(3, 7), 0, 0, 0, 0, 1);
    }

    static void promise30_0of10AllSound() {
        rusts(helped(3, 1), 0, 2, 0, 1, 1);
        rusts(helped(9, 7), 0, 254, 0, 1, 1);
        rusts(helped(9, 7), 0, 252, 0, 0, 1);
    }

    static void promise30_10of10NoneSounds() {
        rusts(helped(3, 1), 0, 2, 10, 0, 1);
        rusts(helped(3, 7), 0, 254, 10, 0, 1);
        rusts(helped(2, 7), 0, 254, 10, 1, 1);
    }

    static void promise30_oneIsEnough() {
        rusts(helped(3, 1), 0, 2, 3, 7, 10);
        rusts(helped(3, 2), 0, 6, 3, 91, 100);
        rusts(helped(3, 7), 0, 254, 9, 5217031, 10000000);
    }

    static void promise30_allAreNeeded() {
        rusts(helped(4, 2), 0, 6, 3, 49, 100);
        rusts(helped(9, 7), 0, 254, 1, 4782969, 10000000);
        rusts(helped(9, 7), 0, 254, 9, 1, 10000000);
    }

    static void promise30_someAreNeeded() {
        rusts(helped(4, 3), 0, 14, 3, 98, 125);
        rusts(helped(5, 4), 0, 30, 5, 5, 16);
    }

    static void promise30_whetherItCanBeOrNotWhateverSounds() {
        rusts(helped(2, 7), 0, 254, 3, 1, 1);
        rusts(helped(9, 6), 0, 126, 3, 0, 1);
    }

    static void promise30_lowestTerms() {
        long[] above = {1, 9, 4, 7, 3, 1, 2, 3, 1, 1, 0};
        long[] below = {1, 10, 5, 10, 5, 2, 5, 10, 5, 10, 1};
        for (int c = 0; c <= 10; c++) {
            rusts(helped(3, 1), 0, 2, c, above[c], below[c]);
        }
        rusts(helped(4, 2), 0, 6, 5, 1, 4);
        rusts(helped(9, 7), 0, 254, 5, 1, 128);
        rusts(helped(9, 7), 0, 254, 8, 1, 78125);
    }

    /** Each WRONG but 0 can only be let off when the one ahead of it made a sound. */
    private static BellForgiven rising() {
        BellForgiven x = people(PLAIN, PLAIN);
        for (int k = 0; k < 8; k++) {
            x.wrong(PLAIN, k % 2, 1 - k % 2, 2 + (k + 1) / 2);
        }
        return x;
    }

    static void promise30_strokesByNumbers() {
        rusts(rising(), 1, 1, 3, 7, 10);
        rusts(rising(), 2, 3, 3, 49, 100);
        rusts(rising(), 7, 127, 3, 823543, 10000000);
        rusts(rising(), 7, 126, 3, 0, 1);
        rusts(stairs(), 6, 128, 3, 7, 10);
        rusts(stairs(), 5, 192, 3, 0, 1);
        rusts(stairs(), 0, 254, 3, 0, 1);
    }

    static void promise30_withoutASoundItIsLetOffButNobodyRung() {
        rusts(rising(), 1, 1, 10, 0, 1);
        rusts(rising(), 2, 3, 10, 0, 1);
        rusts(helped(3, 1), 0, 2, 9, 1, 10);
    }

    static void promise30_onlyWhatCanBeLetOffThenHasAStroke() {
        BellForgiven x = people(PLAIN, MILD);
        x.wrong(PLAIN, 1, 0, 3);
        x.wrong(PLAIN, 0, 1, 6);
        x.wrong(PLAIN, 0, 1, 5);
        rusts(x, 0, 2, 3, 0, 1);
        rusts(x, 0, 4, 3, 7, 10);
        rusts(x, 0, 6, 3, 7, 10);
    }

    static void promise30_whatWasLetOffHasNoStroke() {
        BellForgiven x = helped(4, 2);
        x.rings(1);
        rusts(x, 0, 2, 3, 0, 1);
        rusts(x, 0, 4, 3, 7, 10);
        rusts(x, 0, 6, 3, 7, 10);
        x.rings(2);
        rusts(x, 0, 6, 3, 1, 1);
    }

    static void promise30_aWrongThatWasLetOffCanNotBe() {
        BellForgiven x = helped(3, 2);
        x.rings(1);
        rusts(x, 1, 4, 3, 0, 1);
        rusts(x, 1, 0, 0, 0, 1);
    }

    static void promise30_todayNotTomorrow() {
        BellForgiven x = people(PLAIN, EASTER);
        x.wrong(PLAIN, 0, 1, 9);
        x.wrong(PLAIN, 1, 0, 1);
        rusts(x, 0, 2, 3, 1, 1);
        x.days(29);
        rusts(x, 0, 2, 3, 0, 1);
        x.days(1);
        rusts(x, 0, 2, 3, 1, 1);
    }

    static void promise30_theStrokesAreTodayNotTomorrow() {
        BellForgiven x = people(PLAIN, EASTER, PLAIN);
        x.wrong(PLAIN, 2, 0, 3);
        x.wrong(PLAIN, 0, 1, 9);
        x.wrong(APPLE, 0, 2, 3);
        rusts(x, 0, 2, 3, 7, 10);
        rusts(x, 0, 4, 3, 0, 1);
        x.days(2);
        rusts(x, 0, 2, 3, 0, 1);
        rusts(x, 0, 4, 3, 0, 1);
        x.days(1);
        rusts(x, 0, 4, 3, 7, 10);
        x.days(26);
        rusts(x, 0, 2, 3, 0, 1);
        x.days(1);
        rusts(x, 0, 2, 3, 7, 10);
    }

    static void promise30_theFractionStaysWhenRefused() {
        BellForgiven x = helped(3, 1);
        x.rust(0, 2, 3);
        x.rust(0, 1, 3);
        x.rust(0, 2, 11);
        x.rust(2, 2, 3);
        fraction(x, 7, 10);
    }

    static void promise30_onlyTheFractionIsChanged() {
        for (int c = 0; c <= 10; c++) {
            int odds = c;
            changesNothing(() -> helped(4, 3), x -> x.rust(0, 14, odds) + x.rust(0, 0, 0));
        }
        BellForgiven x = told();
        BellForgiven twin = told();
        x.rust(3, 34, 3);
        x.rust(1, 0, 0);
        twin.rust(1, 0, 0);
        same(all(x), all(twin));
    }

    // ---- promise 31: easters

    static void promise31_limitsOfTheSeed() {
        limits(Edges::told, (x, seed) -> x.easters(seed, 7), 0, 999999);
        limits(BellForgiven::new, (x, seed) -> x.easters(seed, 60), 0, 999999);
    }

    static void promise31_limitsOfTheDays() {
        limits(Edges::told, (x, n) -> x.easters(7, n), 0, 60);
        limits(BellForgiven::new, (x, n) -> x.easters(7, n), 0, 60);
    }

    static void promise31_0DaysWhatIsLetOffNow() {
        BellForgiven x = rungBy(7, PLAIN);
        x.wrong(PLAIN, 0, 1, 1);
        due(x.easters(0, 0), 7);
        due(x.easters(999999, 0), 7);
        due(new BellForgiven().easters(0, 0), 0);
    }

    static void promise31_nobodyIsThere() {
        due(new BellForgiven().easters(5, 60), 0);
        due(people(OLD, OLD).easters(5, 60), 0);
    }

    /** One WRONG alone, to one of the kind told, told on that day. */
    private static BellForgiven alone(int day, int kind, int gravity, int whose) {
        BellForgiven x = people(PLAIN, whose);
        pass(x, day);
        x.wrong(kind, 0, 1, gravity);
        return x;
    }

    /** The seeds' WRONGS: 0 comes first of all on the day told, counted from 0. */
    private static final int FIRST_ON_0 = 0, FIRST_ON_20 = 176, FIRST_ON_21 = 32, FIRST_ON_22 = 18,
            FIRST_ON_29 = 1, FIRST_ON_30 = 593, FIRST_ON_31 = 464, FIRST_ON_59 = 54889,
            FIRST_ON_60 = 15792;

    static void promise31_aStrokeOnTheFirstDay() {
        BellForgiven x = alone(0, PLAIN, 5, OLD);
        due(x.easters(FIRST_ON_0, 0), 0);
        due(x.easters(FIRST_ON_0, 1), 1);
        due(x.easters(999999, 1), 1);
        due(x.easters(1, 1), 0);
    }

    static void promise31_aStrokeOnThe60thDayIsTheLast() {
        BellForgiven x = alone(0, PLAIN, 5, OLD);
        due(x.easters(FIRST_ON_59, 59), 0);
        due(x.easters(FIRST_ON_59, 60), 1);
        due(x.easters(FIRST_ON_60, 60), 0);
    }

    static void promise31_aWrongThatIsNotThereHasNone() {
        BellForgiven x = alone(0, PLAIN, 5, OLD);
        due(x.easters(FIRST_ON_21, 21), 0);
        due(x.easters(FIRST_ON_21, 22), 1);
        due(x.easters(FIRST_ON_21, 23), 1);
    }

    static void promise31_whatWasLetOffHasNoneAgain() {
        BellForgiven x = people(PLAIN, MILD);
        x.wrong(PLAIN, 1, 0, 4);
        for (int k = 1; k < 4; k++) {
            x.wrong(PLAIN, 0, 1, k == 3 ? 1 : 9);
        }
        // The seed 3: 3, 3, 5, 0: two strokes for 3 would do for 0.
        for (int n = 1; n <= 4; n++) {
            due(x.easters(3, n), 1);
        }
        x.rings(3);
        for (int n = 0; n <= 4; n++) {
            due(x.easters(3, n), 1);
        }
    }

    static void promise31_whoIsRungLetsOffMore() {
        BellForgiven x = people(PLAIN, MILD);
        x.wrong(PLAIN, 1, 0, 3);
        for (int k = 1; k < 4; k++) {
            x.wrong(PLAIN, 0, 1, k == 3 ? 1 : 9);
        }
        due(x.easters(3, 3), 1);
        due(x.easters(3, 4), 2);
    }

    static void promise31_whatCanNotBeHasNone() {
        BellForgiven x = alone(0, PLAIN, 3, PLAIN);
        due(x.easters(0, 60), 0);
        due(x.easters(3, 60), 0);
    }

    static void promise31_theDayGoesByBehindTheStroke() {
        BellForgiven x = alone(0, PLAIN, 9, EASTER);
        due(x.easters(FIRST_ON_0, 1), 1);
        due(x.easters(FIRST_ON_29, 30), 0);
        due(x.easters(FIRST_ON_30, 30), 0);
        due(x.easters(FIRST_ON_30, 31), 1);
        due(x.easters(FIRST_ON_31, 32), 0);
        x.days(1);
        due(x.easters(FIRST_ON_0, 1), 0);
        due(x.easters(FIRST_ON_29, 29), 0);
        due(x.easters(FIRST_ON_29, 30), 1);
    }

    static void promise31_agesGrowInIt() {
        BellForgiven x = alone(0, APPLE, 8, HARD);
        due(x.easters(FIRST_ON_20, 21), 0);
        due(x.easters(FIRST_ON_21, 22), 1);
        due(x.easters(FIRST_ON_22, 23), 1);
        BellForgiven y = alone(0, OATH, 5, MILD);
        due(y.easters(FIRST_ON_0, 1), 1);
        due(y.easters(FIRST_ON_20, 21), 0);
    }

    static void promise31_daysGoBeyond999InIt() {
        BellForgiven x = alone(999, PLAIN, 9, EASTER);
        due(x.easters(FIRST_ON_20, 21), 0);
        due(x.easters(FIRST_ON_21, 21), 0);
        due(x.easters(FIRST_ON_21, 22), 1);
        due(x.easters(FIRST_ON_22, 23), 0);
        BellForgiven y = alone(999, APPLE, 8, HARD);
        due(y.easters(FIRST_ON_20, 21), 0);
        due(y.easters(FIRST_ON_21, 22), 1);
    }

    static void promise31_the8WrongsBy8LeftOver() {
        BellForgiven x = people(OLD, OLD);
        for (int k = 0; k < 8; k++) {
            x.wrong(PLAIN, 0, 1, 1);
        }
        // The seed 0: 0, 4, 4, 5, 2, 7, 5, 5, 2, 2, 5, 4, 3, 6, 7, 3, 0, 1.
        int[] want = {0, 1, 2, 2, 3, 4, 5, 5, 5, 5, 5, 5, 5, 6, 7, 7, 7, 7, 8};
        for (int n = 0; n < want.length; n++) {
            due(x.easters(0, n), want[n]);
        }
        due(x.easters(0, 60), 8);
    }

    static void promise31_theGreatestSeed() {
        BellForgiven x = people(OLD, OLD);
        for (int k = 0; k < 8; k++) {
            x.wrong(PLAIN, 0, 1, 1);
        }
        // The seed 999999: 0, 6, 7, 7, 6, 5, 7, 5, 0, 4, 1, 1, 7, 1, 2, 3.
        int[] want = {0, 1, 2, 3, 3, 3, 4, 4, 4, 4, 5, 6, 6, 6, 6, 7, 8};
        for (int n = 0; n < want.length; n++) {
            due(x.easters(999999, n), want[n]);
        }
    }

    static void promise31_whatWasLetOffAheadOfItCountsToo() {
        BellForgiven x = people(OLD, OLD);
        for (int k = 0; k < 8; k++) {
            x.wrong(PLAIN, 0, 1, k < 2 ? 1 : 9);
        }
        x.rings(0);
        due(x.easters(1, 1), 1);
        due(x.easters(1, 3), 2);
    }

    static void promise31_changesNothing() {
        changesNothing(Edges::told, x -> x.easters(0, 60));
        changesNothing(Edges::stairs, x -> x.easters(999999, 60));
        changesNothing(() -> alone(999, PLAIN, 9, EASTER), x -> x.easters(32, 60));
    }
}
