/** The edges of promises 8 to 12: days, strokes, what is undone, of one, about a wrong. */
public final class DaysEdgesTest extends Edges {
    private DaysEdgesTest() {
    }

    public static void main(String[] args) {
        runAll(DaysEdgesTest.class);
    }

    private static BellForgiven onDay(int day, int... kinds) {
        BellForgiven x = people(kinds);
        pass(x, day);
        return x;
    }

    /** Eight WRONGS by the one to the other, each of which can be let off at once. */
    private static BellForgiven eightLight() {
        BellForgiven x = people(GRUDGE, OLD);
        for (int k = 0; k < 8; k++) {
            x.wrong(PLAIN, 0, 1, 1);
        }
        return x;
    }

    // ---- promise 8: days

    static void promise08_limitsOfTheNumber() {
        limits(Edges::told, (x, n) -> x.days(n), 1, 60);
        limits(Edges::full, (x, n) -> x.days(n), 1, 60);
    }

    static void promise08_answersTheDay() {
        BellForgiven x = new BellForgiven();
        due(x.days(1), 1);
        due(x.days(60), 61);
        due(x.days(2), 63);
        due(x.count(4), 63);
    }

    static void promise08_the999thDayIsTheLast() {
        BellForgiven x = onDay(998);
        due(x.count(4), 998);
        due(x.days(1), 999);
        due(x.days(1), 999);
        due(x.days(60), 999);
        due(x.count(4), 999);
        statuses(x, 0, 0, 0);
    }

    static void promise08_asManyGoByAsThereAre() {
        due(onDay(939).days(60), 999);
        due(onDay(940).days(60), 999);
        due(onDay(938).days(60), 998);
        due(onDay(997).days(3), 999);
    }

    static void promise08_agesGrowOnlyByTheDaysThatGoBy() {
        BellForgiven x = onDay(996, PLAIN, MILD);
        x.wrong(PLAIN, 0, 1, 9);
        x.days(60);
        due(x.about(0, 4), 3);
        x.days(60);
        due(x.about(0, 4), 3);
        x.days(1);
        due(x.about(0, 4), 3);
    }

    static void promise08_togetherTheyAreOneThatMayBeUndone() {
        BellForgiven x = onDay(7);
        x.days(60);
        due(x.count(9), 2);
        due(x.undo(), 7);
        due(x.undo(), 0);
        due(x.undo(), NO);
    }

    static void promise08_oneThatMayBeUndoneAlsoIfNoneGoesBy() {
        BellForgiven x = people(PLAIN, MILD);
        write(x, "valley;one 0;one 1;" + "days99;".repeat(11));
        x.read();
        due(x.count(4), 999);
        due(x.count(9), 0);
        due(x.days(5), 999);
        due(x.count(9), 1);
        due(x.days(1), 999);
        due(x.count(9), 2);
        due(x.undo(), 999);
        due(x.undo(), 999);
        due(x.undo(), NO);
    }

    static void promise08_agesAre99AtMost() {
        BellForgiven x = people(PLAIN, MILD);
        x.wrong(PLAIN, 0, 1, 9);
        pass(x, 98);
        due(x.about(0, 4), 98);
        x.days(1);
        due(x.about(0, 4), 99);
        x.days(1);
        due(x.about(0, 4), 99);
        x.days(60);
        due(x.about(0, 4), 99);
        due(x.count(4), 160);
    }

    static void promise08_agesReach99InOneStep() {
        BellForgiven x = people(PLAIN, MILD);
        x.wrong(PLAIN, 0, 1, 9);
        x.days(40);
        x.wrong(PLAIN, 0, 1, 9);
        x.days(60);
        due(x.about(0, 4), 99);
        due(x.about(1, 4), 60);
    }

    static void promise08_whatWasLetOffGrowsNoOlder() {
        BellForgiven x = people(PLAIN, MILD);
        x.wrong(OATH, 0, 1, 4);
        x.wrong(OATH, 0, 1, 9);
        x.days(4);
        x.rings(0);
        x.days(60);
        due(x.about(0, 4), 4);
        due(x.about(0, 6), 4);
        due(x.about(1, 4), 64);
    }

    static void promise08_nothingElseIsChanged() {
        BellForgiven x = told();
        x.days(60);
        counts(x, 4, 6, 3, 2, 68, 3, 2, 2, 2, 7, 33);
        fraction(x, 7, 10);
        statuses(x, 0, 0, 0);
        due(x.of(0, 1), 2);
        due(x.of(2, 1), 1);
        due(x.about(1, 5), 0);
        due(x.about(4, 5), 1);
    }

    static void promise08_daysGoByThoughNobodyIsThere() {
        BellForgiven x = new BellForgiven();
        due(x.days(60), 60);
        due(x.count(9), 1);
        due(x.undo(), 0);
    }

    // ---- promise 9: rings

    static void promise09_limitsOfTheWrong() {
        limits(DaysEdgesTest::eightLight, (x, k) -> x.rings(k), 0, 7);
        refuses(() -> people(PLAIN, MILD), x -> x.rings(0), BAD);
    }

    static void promise09_aWrongThatIsNotThereYetIsBad() {
        BellForgiven x = people(PLAIN, MILD);
        x.wrong(PLAIN, 0, 1, 1);
        due(x.rings(1), BAD);
        x.wrong(PLAIN, 0, 1, 1);
        due(x.rings(1), 1);
        statuses(x, 1, 0, 0);
    }

    static void promise09_whatWeighsAsMuchAsOneLetsOffCanBe() {
        int[] letsOff = {2, 5, 1, 30, 1, 5};
        for (int kind = 0; kind < 6; kind++) {
            int most = Math.min(9, letsOff[kind]);
            BellForgiven x = people(PLAIN, kind);
            due(x.wrong(PLAIN, 0, 1, most), 0);
            due(x.rings(0), 1);
        }
    }

    static void promise09_whatWeighsOneMoreCanNot() {
        int[] letsOff = {2, 5, 1, 30, 1, 5};
        for (int kind = 0; kind < 6; kind++) {
            if (kind != EASTER) {
                BellForgiven x = people(PLAIN, kind);
                x.wrong(PLAIN, 0, 1, letsOff[kind] + 1);
                due(x.rings(0), NO);
                due(x.count(2), 0);
            }
        }
    }

    static void promise09_atEasterWhatWeighs28CanBe() {
        BellForgiven x = people(PLAIN, EASTER);
        x.wrong(DEATH, 0, 1, 9);
        x.days(30);
        due(x.about(0, 6), 28);
        due(x.rings(0), 1);
    }

    static void promise09_noWhatCanNotBeChangesNothing() {
        refuses(Edges::told, x -> x.rings(3), NO);
        refuses(Edges::stairs, x -> x.rings(0), NO);
        refuses(Edges::stairs, x -> x.rings(6), NO);
    }

    static void promise09_noWhatWasLetOffChangesNothing() {
        refuses(Edges::told, x -> x.rings(0), NO);
        refuses(Edges::told, x -> x.rings(4), NO);
        refuses(() -> rungBy(8, PLAIN), x -> x.rings(7), NO);
    }

    static void promise09_itIsToWhomItWasDoneThatLetsOff() {
        BellForgiven x = people(OLD, HARD);
        x.wrong(PLAIN, 0, 1, 2);
        x.wrong(PLAIN, 1, 0, 2);
        due(x.rings(0), NO);
        due(x.rings(1), 1);
    }

    static void promise09_itIsByWhomItWasDoneThatIsRung() {
        BellForgiven x = people(PLAIN, MILD, OLD);
        x.wrong(PLAIN, 0, 1, 5);
        due(x.rings(0), 1);
        due(x.of(0, 1), 1);
        due(x.of(1, 1), 0);
        due(x.of(2, 1), 0);
        due(x.about(0, 5), 1);
    }

    static void promise09_answersHowOftenThatOneIsRung() {
        BellForgiven x = people(OLD, OLD);
        int[] by = {0, 0, 1, 0, 1, 0, 0, 0};
        for (int k = 0; k < 8; k++) {
            x.wrong(PLAIN, by[k], 1 - by[k], 1);
        }
        int[] want = {1, 2, 1, 3, 2, 4, 5, 6};
        for (int k = 0; k < 8; k++) {
            due(x.rings(k), want[k]);
        }
        due(x.count(5), 8);
    }

    static void promise09_eightStrokesByOne() {
        BellForgiven x = eightLight();
        for (int k = 0; k < 8; k++) {
            due(x.rings(7 - k), k + 1);
        }
        due(x.of(0, 1), 8);
    }

    static void promise09_onlyThisOneIsLetOff() {
        BellForgiven x = eightLight();
        x.rings(5);
        for (int k = 0; k < 8; k++) {
            due(x.about(k, 5), k == 5 ? 1 : 0);
        }
        due(x.count(2), 1);
    }

    static void promise09_onceRungOneLetsOffMore() {
        BellForgiven x = people(PLAIN, PLAIN);
        x.wrong(PLAIN, 0, 1, 2);
        x.wrong(PLAIN, 1, 0, 3);
        x.wrong(PLAIN, 1, 0, 4);
        due(x.rings(1), NO);
        due(x.rings(0), 1);
        due(x.rings(2), NO);
        due(x.rings(1), 1);
    }

    static void promise09_theDayAndAgesStay() {
        BellForgiven x = told();
        due(x.rings(1), 1);
        due(x.count(4), 8);
        due(x.about(1, 4), 8);
        due(x.about(3, 4), 8);
    }

    static void promise09_onlyNowNotTomorrow() {
        BellForgiven x = people(PLAIN, HARD);
        x.wrong(APPLE, 0, 1, 2);
        x.days(2);
        due(x.rings(0), NO);
        x.days(1);
        due(x.rings(0), 1);
        x = people(PLAIN, EASTER);
        x.wrong(PLAIN, 0, 1, 9);
        x.days(29);
        due(x.rings(0), NO);
        x.days(1);
        due(x.rings(0), 1);
    }

    static void promise09_oneThatMayBeUndone() {
        BellForgiven x = people(PLAIN, MILD);
        x.wrong(PLAIN, 0, 1, 1);
        x.rings(0);
        due(x.count(9), 1);
        x.rings(0);
        x.rings(1);
        due(x.count(9), 1);
        due(x.undo(), 0);
        due(x.count(2), 0);
        due(x.rings(0), 1);
    }

    // ---- promise 10: undo

    static void promise10_noneMayBeAtFirst() {
        refuses(BellForgiven::new, x -> x.undo(), NO);
        refuses(() -> people(PLAIN, MILD), x -> x.undo(), NO);
    }

    static void promise10_noneMayBeWhenAllIsUndone() {
        BellForgiven x = told();
        for (int n = 6; n > 0; n--) {
            due(x.count(9), n);
            due(x.undo() == NO ? 1 : 0, 0);
        }
        due(x.undo(), NO);
        due(x.undo(), NO);
        statuses(x, 0, 2, 0);
        due(x.count(4), 0);
    }

    static void promise10_noChangesNothing() {
        refuses(() -> {
            BellForgiven x = told();
            x.one(PLAIN);
            return x;
        }, x -> x.undo(), NO);
    }

    static void promise10_eightMayBeUndone() {
        BellForgiven x = new BellForgiven();
        for (int n = 1; n <= 8; n++) {
            x.days(n);
            due(x.count(9), n);
        }
        for (int n = 8; n > 0; n--) {
            due(x.undo(), n * (n - 1) / 2);
        }
        due(x.undo(), NO);
    }

    static void promise10_aNinthIsNotUndoneAnyMore() {
        BellForgiven x = new BellForgiven();
        for (int n = 1; n <= 9; n++) {
            x.days(n);
        }
        due(x.count(9), 8);
        for (int n = 9; n > 1; n--) {
            due(x.undo(), n * (n - 1) / 2);
            due(x.count(9), n - 2);
        }
        due(x.undo(), NO);
        due(x.count(4), 1);
    }

    static void promise10_manyMoreThanEight() {
        BellForgiven x = new BellForgiven();
        for (int n = 0; n < 30; n++) {
            x.days(1);
        }
        for (int n = 29; n >= 22; n--) {
            due(x.undo(), n);
        }
        due(x.undo(), NO);
        for (int n = 23; n <= 32; n++) {
            x.days(1);
            due(x.count(9), Math.min(8, n - 22));
        }
        for (int n = 31; n >= 24; n--) {
            due(x.undo(), n);
        }
        due(x.undo(), NO);
        due(x.count(4), 24);
    }

    static void promise10_eightStrokesAreUndoneToo() {
        BellForgiven x = stairs();
        for (int k = 7; k >= 0; k--) {
            x.rings(k);
        }
        due(x.count(2), 8);
        for (int k = 0; k < 8; k++) {
            due(x.undo(), 0);
            due(x.about(k, 5), 0);
            due(x.count(5), 7 - k);
            due(x.may(), 1 << k);
        }
        due(x.undo(), NO);
    }

    static void promise10_rungIsAsAheadOfIt() {
        BellForgiven x = eightLight();
        for (int k = 0; k < 4; k++) {
            x.rings(k);
        }
        int[] letsOff = {4, 3, 3, 1, 1};
        for (int r = 4; r >= 0; r--) {
            due(x.of(0, 1), r);
            due(x.of(0, 2), letsOff[4 - r]);
            x.undo();
        }
    }

    static void promise10_agesAreAsAheadOfIt() {
        BellForgiven x = people(PLAIN, MILD);
        x.wrong(PLAIN, 0, 1, 9);
        pass(x, 97);
        x.days(60);
        due(x.about(0, 4), 99);
        x.undo();
        due(x.about(0, 4), 97);
        x.undo();
        due(x.about(0, 4), 60);
        x.undo();
        due(x.about(0, 4), 0);
    }

    static void promise10_agesOfAllEightAreAsAheadOfIt() {
        BellForgiven x = people(HARD, HARD);
        for (int k = 0; k < 8; k++) {
            x.wrong(PLAIN, k % 2, 1 - k % 2, 9);
            x.days(k + 1);
        }
        x.days(3);
        x.days(60);
        x.undo();
        for (int k = 0; k < 8; k++) {
            due(x.about(k, 4), 36 - k * (k + 1) / 2 + 3);
        }
        x.undo();
        x.undo();
        for (int k = 0; k < 8; k++) {
            due(x.about(k, 4), 28 - k * (k + 1) / 2);
        }
    }

    static void promise10_rungOfAllSixIsAsAheadOfIt() {
        BellForgiven x = people(OLD, OLD, OLD, OLD, OLD, OLD);
        for (int k = 0; k < 8; k++) {
            x.wrong(PLAIN, k % 6, (k + 1) % 6, 1);
        }
        for (int k = 0; k < 8; k++) {
            x.rings(k);
        }
        for (int k = 7; k >= 0; k--) {
            for (int i = 0; i < 6; i++) {
                due(x.of(i, 1), (i <= k ? 1 : 0) + (i + 6 <= k ? 1 : 0));
            }
            due(x.count(5), k + 1);
            x.undo();
        }
        due(x.count(5), 0);
    }

    static void promise10_whatIsLetOffIsAsAheadOfIt() {
        BellForgiven x = people(PLAIN, MILD);
        x.wrong(PLAIN, 0, 1, 1);
        x.wrong(PLAIN, 0, 1, 1);
        x.rings(1);
        x.rings(0);
        x.undo();
        due(x.about(0, 5), 0);
        due(x.about(1, 5), 1);
        x.days(3);
        x.undo();
        due(x.about(0, 5), 0);
        due(x.about(1, 5), 1);
        x.undo();
        due(x.about(1, 5), 0);
    }

    static void promise10_theDayIsAsAheadOfIt() {
        BellForgiven x = people(EASTER, OLD);
        x.days(60);
        x.days(1);
        due(x.of(0, 2), 1);
        due(x.undo(), 60);
        due(x.of(0, 2), 30);
        due(x.of(1, 2), 11);
        due(x.undo(), 0);
        due(x.of(1, 2), 5);
    }

    static void promise10_behindOneOrAWrongNoneMayBe() {
        BellForgiven x = people(PLAIN, MILD);
        x.days(1);
        x.days(1);
        x.one(PLAIN);
        due(x.undo(), NO);
        x.days(1);
        x.wrong(PLAIN, 0, 1, 1);
        due(x.undo(), NO);
        due(x.count(4), 3);
        x.rings(0);
        due(x.undo(), 3);
        due(x.undo(), NO);
        due(x.count(0), 3);
        due(x.count(1), 1);
    }

    static void promise10_allElseStaysThatCameMeanwhile() {
        BellForgiven x = people(PLAIN, MILD);
        x.wrong(PLAIN, 1, 0, 3);
        x.wrong(PLAIN, 0, 1, 5);
        x.days(4);
        x.image(0);
        x.seen(0, 1, 2, 1);
        x.note(0, 1, 2, 1);
        x.mark(0, 1, 2, 3);
        x.type('v');
        x.rust(0, 2, 1);
        x.one(9);
        x.from(1);
        due(x.undo(), 0);
        counts(x, 2, 2, 0, 2, 0, 0, 1, 1, 1, 0, 1);
        fraction(x, 9, 10);
        statuses(x, 1, 1, 0);
        due(x.from(0), 1);
        due(x.count(4), 4);
    }

    static void promise10_onlyDaysAndStrokesAreUndone() {
        BellForgiven x = people(PLAIN, MILD);
        x.wrong(PLAIN, 0, 1, 1);
        x.days(4);
        x.seen(0, 1, 2, 1);
        x.note(0, 1, 2, 1);
        x.mark(0, 1, 2, 3);
        x.forget(0);
        x.type('v');
        x.clear();
        x.rust(0, 0, 1);
        x.image(0);
        x.easters(1, 9);
        due(x.count(9), 1);
    }

    static void promise10_whatWasUndoneDoesNotComeAgain() {
        BellForgiven x = people(PLAIN, MILD);
        x.wrong(PLAIN, 0, 1, 1);
        x.days(4);
        x.days(5);
        due(x.undo(), 4);
        due(x.rings(0), 1);
        due(x.undo(), 4);
        due(x.about(0, 5), 0);
        due(x.undo(), 0);
        due(x.undo(), NO);
    }

    static void promise10_aRefusedOneIsNotUndone() {
        BellForgiven x = stairs();
        x.days(2);
        x.days(0);
        x.days(61);
        x.rings(0);
        x.rings(8);
        due(x.count(9), 1);
        due(x.undo(), 0);
        due(x.undo(), NO);
    }

    // ---- promise 11: of

    static void promise11_limitsOfWho() {
        limits(Edges::told, (x, i) -> x.of(i, 0), 0, 3);
        limits(Edges::full, (x, i) -> x.of(i, 3), 0, 5);
        limits(() -> people(OLD), (x, i) -> x.of(i, 2), 0, 0);
    }

    static void promise11_limitsOfWhat() {
        limits(Edges::told, (x, what) -> x.of(0, what), 0, 3);
        limits(Edges::full, (x, what) -> x.of(5, what), 0, 3);
    }

    static void promise11_changesNothing() {
        for (int n = 0; n < 4; n++) {
            int what = n;
            changesNothing(Edges::told, x -> x.of(2, what));
        }
    }

    static void promise11_kindsFromFirstToLast() {
        BellForgiven x = people(0, 1, 2, 3, 4, 5);
        for (int i = 0; i < 6; i++) {
            due(x.of(i, 0), i);
        }
    }

    static void promise11_rungFrom0To8() {
        for (int r = 0; r <= 8; r++) {
            due(rungBy(r, PLAIN).of(0, 1), r);
        }
    }

    /** What one of a kind lets off on day 1, RUNG by 0 to 8. */
    private static void letsOff(int kind, int... want) {
        for (int r = 0; r <= 8; r++) {
            BellForgiven x = rungBy(r, kind);
            x.days(1);
            due(x.of(0, 2), want[r]);
        }
    }

    private static void letsOffOnDays(int kind, int[] days, int... want) {
        for (int n = 0; n < days.length; n++) {
            BellForgiven x = onDay(days[n], kind);
            due(x.count(4), days[n]);
            due(x.of(0, 2), want[n]);
        }
    }

    static void promise11_plainLetsOff2AndR() {
        letsOff(PLAIN, 2, 3, 4, 5, 6, 7, 8, 9, 10);
        letsOffOnDays(PLAIN, new int[] {0, 10, 30, 99, 999}, 2, 2, 2, 2, 2);
    }

    static void promise11_mildLetsOff3More() {
        letsOff(MILD, 5, 6, 7, 8, 9, 10, 11, 12, 13);
        letsOffOnDays(MILD, new int[] {0, 10, 30, 99, 999}, 5, 5, 5, 5, 5);
    }

    static void promise11_hardLetsOffHalfCut() {
        letsOff(HARD, 1, 1, 2, 2, 3, 3, 4, 4, 5);
        letsOffOnDays(HARD, new int[] {0, 10, 30, 99, 999}, 1, 1, 1, 1, 1);
    }

    static void promise11_easterLetsOffAsHardOnOtherDays() {
        letsOff(EASTER, 1, 1, 2, 2, 3, 3, 4, 4, 5);
    }

    static void promise11_easterLetsOff30If30DividesTheDay() {
        int[] days = {0, 1, 3, 10, 15, 29, 30, 31, 59, 60, 61, 90, 960, 989, 990, 991, 999};
        letsOffOnDays(EASTER, days, 30, 1, 1, 1, 1, 1, 30, 1, 1, 30, 1, 30, 30, 1, 30, 1, 1);
        for (int r = 0; r <= 8; r++) {
            due(rungBy(r, EASTER).of(0, 2), 30);
        }
    }

    static void promise11_grudgeLetsOff1MoreIfRungBy2OrMore() {
        letsOff(GRUDGE, 1, 1, 3, 3, 4, 4, 5, 5, 6);
        letsOffOnDays(GRUDGE, new int[] {0, 10, 30, 99, 999}, 1, 1, 1, 1, 1);
    }

    static void promise11_oldLetsOff1MoreForEachWhole10Days() {
        letsOff(OLD, 5, 6, 7, 8, 9, 10, 11, 12, 13);
        int[] days = {0, 1, 9, 10, 11, 19, 20, 29, 30, 49, 50, 79, 80};
        letsOffOnDays(OLD, days, 5, 5, 5, 6, 6, 6, 7, 7, 8, 9, 10, 12, 13);
    }

    static void promise11_oldLetsOff9MoreAtMost() {
        int[] days = {89, 90, 91, 99, 100, 109, 110, 500, 999};
        letsOffOnDays(OLD, days, 13, 14, 14, 14, 14, 14, 14, 14, 14);
    }

    static void promise11_guiltyIsWhoDidIt() {
        BellForgiven x = people(PLAIN, MILD, HARD);
        x.wrong(PLAIN, 1, 0, 2);
        due(x.of(0, 3), 0);
        due(x.of(1, 3), 1);
        due(x.of(2, 3), 0);
    }

    static void promise11_guiltyUntilTheLastIsLetOff() {
        BellForgiven x = people(PLAIN, MILD);
        x.wrong(PLAIN, 0, 1, 5);
        x.wrong(PLAIN, 0, 1, 5);
        due(x.of(0, 3), 1);
        x.rings(1);
        due(x.of(0, 3), 1);
        x.rings(0);
        due(x.of(0, 3), 0);
        x.undo();
        due(x.of(0, 3), 1);
        x.rings(0);
        x.wrong(PLAIN, 0, 1, 5);
        due(x.of(0, 3), 1);
    }

    static void promise11_guiltyByTheLastOfEight() {
        BellForgiven x = rungBy(7, PLAIN);
        due(x.of(0, 3), 0);
        x.wrong(PLAIN, 0, 1, 1);
        due(x.of(0, 3), 1);
        x.rings(7);
        due(x.of(0, 3), 0);
    }

    // ---- promise 12: about

    static void promise12_limitsOfTheWrong() {
        limits(Edges::told, (x, k) -> x.about(k, 0), 0, 5);
        limits(Edges::full, (x, k) -> x.about(k, 6), 0, 7);
    }

    static void promise12_limitsOfWhat() {
        limits(Edges::told, (x, what) -> x.about(0, what), 0, 6);
        limits(Edges::full, (x, what) -> x.about(7, what), 0, 6);
    }

    static void promise12_changesNothing() {
        for (int n = 0; n < 7; n++) {
            int what = n;
            changesNothing(Edges::told, x -> x.about(3, what));
        }
    }

    static void promise12_firstAndLastOfEightAreAsTold() {
        BellForgiven x = full();
        int[][] want = {{0, 0, 1, 1, 0, 1, 1}, {1, 1, 2, 8, 2, 0, 8}};
        for (int what = 0; what < 7; what++) {
            due(x.about(0, what), want[0][what]);
            due(x.about(7, what), want[1][what]);
        }
    }

    static void promise12_ageFrom0To99() {
        BellForgiven x = people(PLAIN, MILD);
        x.wrong(PLAIN, 0, 1, 9);
        for (int d = 0; d <= 102; d++) {
            due(x.about(0, 4), Math.min(99, d));
            x.days(1);
        }
    }

    /** What one of the kind and GRAVITY weighs at the ages told. */
    private static void weighs(int kind, int gravity, int[] ages, int... want) {
        for (int n = 0; n < ages.length; n++) {
            BellForgiven x = people(PLAIN, HARD);
            x.wrong(kind, 0, 1, gravity);
            pass(x, ages[n]);
            due(x.about(0, 4), ages[n]);
            due(x.about(0, 6), want[n]);
        }
    }

    static void promise12_plainWeighsItsGravity() {
        int[] ages = {0, 1, 3, 5, 7, 99};
        for (int g = 1; g <= 9; g++) {
            weighs(PLAIN, g, ages, g, g, g, g, g, g);
        }
    }

    static void promise12_appleWeighs1LessForEachWhole3Days() {
        weighs(APPLE, 9, new int[] {0, 1, 2, 3, 4, 5, 6, 8, 9, 23, 24, 26}, 9, 9, 9, 8, 8, 8, 7, 7, 6, 2,
                1, 1);
    }

    static void promise12_appleWeighs0AtLeast() {
        weighs(APPLE, 9, new int[] {26, 27, 28, 30, 60, 99}, 1, 0, 0, 0, 0, 0);
        weighs(APPLE, 1, new int[] {0, 2, 3, 6, 99}, 1, 1, 0, 0, 0);
    }

    static void promise12_oathWeighs1MoreForEachWhole5Days() {
        weighs(OATH, 4, new int[] {0, 1, 4, 5, 6, 9, 10, 14, 15, 19, 20}, 4, 4, 4, 5, 5, 5, 6, 6, 7, 7,
                8);
    }

    static void promise12_oathWeighs5MoreAtMost() {
        weighs(OATH, 4, new int[] {24, 25, 26, 29, 30, 31, 60, 99}, 8, 9, 9, 9, 9, 9, 9, 9);
        weighs(OATH, 9, new int[] {24, 25, 30, 99}, 13, 14, 14, 14);
    }

    static void promise12_lateWeighsAsAppleAnd2AtLeast() {
        weighs(LATE, 4, new int[] {0, 2, 3, 5, 6, 8, 9, 12, 99}, 4, 4, 3, 3, 2, 2, 2, 2, 2);
        weighs(LATE, 9, new int[] {20, 21, 23, 24, 27, 99}, 3, 2, 2, 2, 2, 2);
        weighs(LATE, 1, new int[] {0, 1, 3, 99}, 2, 2, 2, 2);
        weighs(LATE, 2, new int[] {0, 1, 3, 99}, 2, 2, 2, 2);
        weighs(LATE, 3, new int[] {0, 2, 3}, 3, 3, 2);
    }

    static void promise12_deathWeighsTwiceOath() {
        weighs(DEATH, 4, new int[] {0, 4, 5, 9, 10, 24, 25, 29, 30, 99}, 8, 8, 10, 10, 12, 16, 18, 18,
                18, 18);
        weighs(DEATH, 9, new int[] {0, 25, 99}, 18, 28, 28);
        weighs(DEATH, 1, new int[] {0, 25}, 2, 12);
    }

    static void promise12_wordWeighs0If7DividesItsAge() {
        weighs(WORD, 9, new int[] {6, 7, 8, 13, 14, 15, 20, 21, 22, 28, 35, 98, 99}, 7, 0, 7, 5, 0, 4, 3,
                0, 2, 0, 0, 0, 0);
    }

    static void promise12_wordWeighsAsAppleOnItsDay0() {
        weighs(WORD, 9, new int[] {0, 1, 3}, 9, 9, 8);
        weighs(WORD, 1, new int[] {0, 2, 3}, 1, 1, 0);
    }

    static void promise12_whatWasLetOffWeighsAsThen() {
        BellForgiven x = people(PLAIN, OLD);
        x.wrong(DEATH, 0, 1, 1);
        x.days(5);
        x.rings(0);
        x.days(60);
        due(x.about(0, 4), 5);
        due(x.about(0, 5), 1);
        due(x.about(0, 6), 4);
    }

    static void promise12_letOffIs1Or0() {
        BellForgiven x = rungBy(8, PLAIN);
        for (int k = 0; k < 8; k++) {
            due(x.about(k, 5), 1);
        }
        x.undo();
        due(x.about(7, 5), 0);
        due(x.about(6, 5), 1);
    }
}
