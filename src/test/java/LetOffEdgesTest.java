/** The edges of promises 13 to 18: what may be, the peal, when, few, hush, rings of wrongs. */
public final class LetOffEdgesTest extends Edges {
    private LetOffEdgesTest() {
    }

    public static void main(String[] args) {
        runAll(LetOffEdgesTest.class);
    }

    /** WRONG 0 weighs so much and is to a PLAIN one who did the n others, which weigh 1. */
    private static BellForgiven helped(int gravity, int n) {
        BellForgiven x = people(PLAIN, MILD);
        x.wrong(PLAIN, 1, 0, gravity);
        for (int k = 0; k < n; k++) {
            x.wrong(PLAIN, 0, 1, 1);
        }
        return x;
    }

    /** One WRONG alone, to one of the kind told, told on that day. */
    private static BellForgiven alone(int day, int kind, int gravity, int whose) {
        BellForgiven x = people(PLAIN, whose);
        pass(x, day);
        x.wrong(kind, 0, 1, gravity);
        return x;
    }

    // ---- promise 13: may

    static void promise13_0IfThereIsNone() {
        due(new BellForgiven().may(), 0);
        due(people(OLD, OLD).may(), 0);
    }

    static void promise13_0IfNoneCanBe() {
        due(alone(0, PLAIN, 9, HARD).may(), 0);
    }

    static void promise13_bitsOfTheFirstAndTheEighth() {
        BellForgiven x = people(PLAIN, MILD);
        for (int k = 0; k < 8; k++) {
            x.wrong(PLAIN, 0, 1, k == 0 || k == 7 ? 5 : 6);
        }
        due(x.may(), 0b10000001);
    }

    static void promise13_allEight() {
        BellForgiven x = people(OLD, OLD);
        for (int k = 0; k < 8; k++) {
            x.wrong(PLAIN, k % 2, 1 - k % 2, 5);
        }
        due(x.may(), 255);
    }

    static void promise13_whatWeighsAsMuchCanBeOneMoreCanNot() {
        int[] letsOff = {2, 5, 1, 30, 1, 5};
        for (int kind = 0; kind < 6; kind++) {
            for (int g = 1; g <= 9; g++) {
                due(alone(0, PLAIN, g, kind).may(), g <= letsOff[kind] ? 1 : 0);
            }
        }
    }

    static void promise13_notWhatWasLetOff() {
        BellForgiven x = rungBy(8, PLAIN);
        due(x.may(), 0);
        x.undo();
        due(x.may(), 128);
    }

    static void promise13_nowWithoutStrokesAhead() {
        BellForgiven x = stairs();
        for (int k = 7; k >= 0; k--) {
            due(x.may(), 1 << k);
            x.rings(k);
        }
        due(x.may(), 0);
    }

    static void promise13_nowNotTomorrow() {
        BellForgiven x = alone(0, APPLE, 2, HARD);
        x.days(2);
        due(x.may(), 0);
        x.days(1);
        due(x.may(), 1);
        x = alone(29, PLAIN, 9, EASTER);
        due(x.may(), 0);
        x.days(1);
        due(x.may(), 1);
        x.days(1);
        due(x.may(), 0);
    }

    static void promise13_changesNothing() {
        changesNothing(Edges::told, x -> x.may());
        changesNothing(Edges::stairs, x -> x.may());
    }

    // ---- promise 14: peal

    static void promise14_0IfThereIsNone() {
        due(new BellForgiven().peal(), 0);
        due(people(OLD, OLD).peal(), 0);
    }

    static void promise14_0IfNoneCanBeFirst() {
        due(alone(0, PLAIN, 9, HARD).peal(), 0);
    }

    static void promise14_allEightOneBehindTheOther() {
        due(stairs().peal(), 255);
    }

    static void promise14_theRestOfThem() {
        BellForgiven x = stairs();
        for (int k = 7; k >= 0; k--) {
            x.rings(k);
            due(x.peal(), (1 << k) - 1);
        }
    }

    static void promise14_notWhatWasLetOff() {
        due(rungBy(8, PLAIN).peal(), 0);
    }

    static void promise14_itEndsWhereOneIsTooHeavy() {
        BellForgiven x = people(PLAIN, PLAIN);
        for (int k = 0; k < 8; k++) {
            x.wrong(PLAIN, 1 - k % 2, k % 2, k == 4 ? 5 : 6 - k / 2 - k % 2);
        }
        due(x.peal(), 0b11100000);
    }

    static void promise14_eachStrokeCountsFor1() {
        due(helped(3, 0).peal(), 0b0);
        due(helped(3, 1).peal(), 0b11);
        due(helped(4, 1).peal(), 0b10);
        due(helped(4, 2).peal(), 0b111);
        due(helped(9, 6).peal(), 0b1111110);
        due(helped(9, 7).peal(), 0b11111111);
    }

    static void promise14_onlyWhoIsRungLetsOffMore() {
        BellForgiven x = people(PLAIN, MILD, PLAIN);
        x.wrong(PLAIN, 1, 0, 3);
        x.wrong(PLAIN, 2, 1, 1);
        x.wrong(PLAIN, 1, 2, 1);
        due(x.peal(), 0b110);
    }

    static void promise14_aGrudgeNeedsTwo() {
        for (int n = 0; n <= 3; n++) {
            BellForgiven x = people(GRUDGE, MILD);
            x.wrong(PLAIN, 1, 0, 3);
            for (int k = 0; k < n; k++) {
                x.wrong(PLAIN, 0, 1, 1);
            }
            due(x.peal(), n < 2 ? 2 * n : (1 << n + 1) - 1);
        }
    }

    static void promise14_aHardOneNeedsTwoForEach1() {
        for (int n = 0; n <= 3; n++) {
            BellForgiven x = people(HARD, MILD);
            x.wrong(PLAIN, 1, 0, 2);
            for (int k = 0; k < n; k++) {
                x.wrong(PLAIN, 0, 1, 1);
            }
            due(x.peal(), n < 2 ? 2 * n : (1 << n + 1) - 1);
        }
    }

    static void promise14_todayNotTomorrow() {
        BellForgiven x = alone(0, APPLE, 2, HARD);
        x.days(2);
        due(x.peal(), 0);
        x.days(1);
        due(x.peal(), 1);
        x = alone(29, PLAIN, 9, EASTER);
        due(x.peal(), 0);
        x.days(1);
        due(x.peal(), 1);
    }

    static void promise14_changesNothing() {
        changesNothing(Edges::told, x -> x.peal());
        changesNothing(Edges::stairs, x -> x.peal());
    }

    // ---- promise 15: when

    static void promise15_limitsOfTheWrong() {
        limits(Edges::told, (x, k) -> x.when(k), 0, 5);
        limits(Edges::stairs, (x, k) -> x.when(k), 0, 7);
        refuses(() -> people(OLD, OLD), x -> x.when(0), BAD);
    }

    static void promise15_noneIfLetOffAlready() {
        BellForgiven x = alone(0, PLAIN, 1, PLAIN);
        due(x.when(0), 0);
        x.rings(0);
        due(x.when(0), NONE);
        statuses(x, 0, 0, 0);
        x.undo();
        due(x.when(0), 0);
    }

    static void promise15_0IfItCanBeNow() {
        due(alone(0, PLAIN, 2, PLAIN).when(0), 0);
        due(alone(0, PLAIN, 9, EASTER).when(0), 0);
        due(alone(999, PLAIN, 2, PLAIN).when(0), 0);
    }

    static void promise15_noneIfItNeverCanBe() {
        BellForgiven x = alone(0, PLAIN, 3, PLAIN);
        due(x.when(0), NONE);
        statuses(x, 0, 0, 0);
    }

    static void promise15_60DaysAreLookedAt61AreNot() {
        BellForgiven x = alone(29, OATH, 9, OLD);
        due(x.when(0), NONE);
        x.days(1);
        due(x.when(0), 60);
        x.days(1);
        due(x.when(0), 59);
    }

    static void promise15_noStrokeGoesAheadOfIt() {
        BellForgiven x = stairs();
        for (int k = 0; k < 7; k++) {
            due(x.when(k), NONE);
        }
        due(x.when(7), 0);
        x.rings(7);
        due(x.when(6), 0);
    }

    static void promise15_anAppleGrowsLighter() {
        due(alone(0, APPLE, 9, HARD).when(0), 24);
        due(alone(0, APPLE, 2, HARD).when(0), 3);
        due(alone(0, APPLE, 9, PLAIN).when(0), 21);
    }

    static void promise15_aLateOneStaysAt2() {
        due(alone(0, LATE, 9, PLAIN).when(0), 21);
        due(alone(0, LATE, 1, HARD).when(0), NONE);
        due(alone(0, LATE, 9, GRUDGE).when(0), NONE);
    }

    static void promise15_aWordOnItsSeventhDay() {
        BellForgiven x = alone(0, WORD, 9, HARD);
        due(x.when(0), 7);
        x.days(6);
        due(x.when(0), 1);
        x.days(1);
        due(x.when(0), 0);
        x.days(1);
        due(x.when(0), 6);
    }

    static void promise15_anOathGrowsHeavierThanAnOldOneMilder() {
        BellForgiven x = alone(5, OATH, 5, OLD);
        due(x.when(0), 0);
        x.days(5);
        due(x.when(0), 0);
        x.days(5);
        due(x.when(0), 35);
    }

    static void promise15_easterComesAgain() {
        due(alone(0, PLAIN, 9, EASTER).when(0), 0);
        due(alone(1, PLAIN, 9, EASTER).when(0), 29);
        due(alone(29, PLAIN, 9, EASTER).when(0), 1);
        due(alone(30, PLAIN, 9, EASTER).when(0), 0);
        due(alone(31, PLAIN, 9, EASTER).when(0), 29);
    }

    static void promise15_daysGoBeyond999InIt() {
        due(alone(999, PLAIN, 9, EASTER).when(0), 21);
        due(alone(991, PLAIN, 9, EASTER).when(0), 29);
        due(alone(999, APPLE, 9, HARD).when(0), 24);
        due(alone(999, WORD, 9, HARD).when(0), 7);
    }

    static void promise15_changesNothing() {
        for (int n = 0; n < 6; n++) {
            int k = n;
            changesNothing(Edges::told, x -> x.when(k));
        }
        changesNothing(() -> alone(999, PLAIN, 9, EASTER), x -> x.when(0));
    }

    // ---- promise 16: few

    static void promise16_limitsOfTheWrong() {
        limits(Edges::told, (x, k) -> x.few(k, NONE), 0, 5, -10);
        limits(Edges::stairs, (x, k) -> x.few(k, 0), 0, 7, -10);
        refuses(() -> people(OLD, OLD), x -> x.few(0, NONE), -10, BAD);
    }

    static void promise16_nBelowNoneIsBad() {
        for (int below : new int[] {-2, -3, -10, MIN}) {
            refuses(Edges::stairs, x -> x.few(0, below), -10, BAD);
            refuses(Edges::told, x -> x.few(1, below), -10, BAD);
        }
    }

    static void promise16_nBelowNoneIsBadAlsoIfThereIsNoRow() {
        refuses(Edges::told, x -> x.few(3, -2), -10, BAD);
        refuses(Edges::told, x -> x.few(0, -2), -10, BAD);
    }

    static void promise16_noneIsMinus6WhateverN() {
        BellForgiven x = helped(4, 1);
        for (int n : new int[] {NONE, 0, 1, 7, 8, 1000, MAX}) {
            due(x.few(0, n), -6);
        }
        statuses(x, 0, 0, 0);
        changesNothing(() -> helped(4, 1), y -> y.few(0, 0));
    }

    static void promise16_notSoManyIsMinus5() {
        BellForgiven x = stairs();
        for (int k = 0; k < 8; k++) {
            due(x.few(k, 8 - k - 1), k);
            due(x.few(k, 8 - k), -5);
            due(x.few(k, 8 - k + 1), -5);
            due(x.few(k, MAX), -5);
        }
        statuses(x, 0, 0, 0);
    }

    static void promise16_letOffAlreadyIs0() {
        BellForgiven x = alone(0, PLAIN, 1, PLAIN);
        x.rings(0);
        due(x.few(0, NONE), 0);
        due(x.few(0, 0), -5);
        due(x.few(0, MAX), -5);
        statuses(x, 0, 0, 0);
    }

    static void promise16_1IfItCanBeAtOnce() {
        BellForgiven x = alone(0, PLAIN, 2, PLAIN);
        due(x.few(0, NONE), 1);
        due(x.few(0, 0), 0);
        due(x.few(0, 1), -5);
    }

    static void promise16_upTo8TheToldOneTheLast() {
        BellForgiven x = stairs();
        for (int k = 0; k < 8; k++) {
            due(x.few(k, NONE), 8 - k);
            for (int n = 0; n < 8 - k; n++) {
                due(x.few(k, n), 7 - n);
            }
        }
    }

    static void promise16_noMoreThanItNeeds() {
        for (int needed = 0; needed <= 7; needed++) {
            BellForgiven x = helped(2 + needed, 7);
            due(x.few(0, NONE), needed + 1);
        }
    }

    static void promise16_ofLikeRowsTheFirst() {
        BellForgiven x = helped(4, 5);
        due(x.few(0, 0), 1);
        due(x.few(0, 1), 2);
        due(x.few(0, 2), 0);
        due(x.few(0, 3), -5);
    }

    static void promise16_theToldOneIsLastThoughOthersAreBehindIt() {
        BellForgiven x = people(MILD, PLAIN);
        x.wrong(PLAIN, 1, 0, 1);
        x.wrong(PLAIN, 0, 1, 3);
        x.wrong(PLAIN, 1, 0, 1);
        due(x.few(1, NONE), 2);
        due(x.few(1, 0), 0);
        due(x.few(1, 1), 1);
        x.rings(0);
        due(x.few(1, NONE), 1);
    }

    static void promise16_theShorterRowThoughALongerOneComesFirst() {
        BellForgiven x = people(PLAIN, MILD, PLAIN);
        // 3 needs 2 to be rung: by 0 only behind 1, by 2 at once.
        x.wrong(PLAIN, 2, 0, 3);
        x.wrong(PLAIN, 0, 1, 1);
        x.wrong(PLAIN, 2, 1, 5);
        x.wrong(PLAIN, 1, 2, 3);
        due(x.few(3, NONE), 2);
        due(x.few(3, 0), 2);
        due(x.few(3, 1), 3);
        due(x.few(3, 2), -5);
    }

    static void promise16_ofLongRowsTheFirstByTheirFirst() {
        BellForgiven x = people(PLAIN, PLAIN, OLD);
        // 4 needs 0 rung twice: 1 at once, 0 only behind 3 or 2.
        x.wrong(PLAIN, 0, 1, 3);
        x.wrong(PLAIN, 0, 2, 1);
        x.wrong(PLAIN, 1, 2, 1);
        x.wrong(PLAIN, 1, 2, 1);
        x.wrong(PLAIN, 2, 0, 4);
        due(x.few(4, NONE), 4);
        int[] row = {1, 2, 0, 4};
        for (int n = 0; n < 4; n++) {
            due(x.few(4, n), row[n]);
        }
        x.rings(2);
        due(x.few(4, NONE), 3);
        due(x.few(4, 0), 0);
        due(x.few(4, 1), 1);
    }

    static void promise16_strokesTodayNotTomorrow() {
        BellForgiven x = alone(0, APPLE, 2, HARD);
        x.days(2);
        due(x.few(0, NONE), -6);
        x.days(1);
        due(x.few(0, NONE), 1);
    }

    static void promise16_theRowsStrokesAreToday() {
        BellForgiven x = people(PLAIN, PLAIN, PLAIN);
        // For 0 one stroke by 0 is needed: 1 can from day 3 on, 2 till day 4, 3 always.
        x.wrong(PLAIN, 1, 0, 3);
        x.wrong(APPLE, 0, 2, 3);
        x.wrong(OATH, 0, 1, 2);
        x.wrong(PLAIN, 0, 1, 2);
        due(x.few(0, 0), 2);
        x.days(2);
        due(x.few(0, 0), 2);
        x.days(1);
        due(x.few(0, 0), 1);
        BellForgiven y = people(PLAIN, PLAIN);
        y.wrong(PLAIN, 1, 0, 3);
        y.wrong(OATH, 0, 1, 2);
        y.wrong(PLAIN, 0, 1, 2);
        y.days(4);
        due(y.few(0, 0), 1);
        y.days(1);
        due(y.few(0, 0), 2);
    }

    static void promise16_aNumberOfAWrongNotOfItsPlace() {
        BellForgiven x = helped(3, 7);
        for (int k = 1; k < 7; k++) {
            x.rings(k);
            due(x.few(0, 0), 0);
        }
        BellForgiven y = people(PLAIN, MILD);
        for (int k = 0; k < 6; k++) {
            y.wrong(PLAIN, 1, 0, 9);
        }
        y.wrong(PLAIN, 0, 1, 1);
        y.wrong(PLAIN, 1, 0, 3);
        due(y.few(7, 0), 6);
        due(y.few(7, 1), 7);
    }

    static void promise16_changesNothing() {
        for (int n = -1; n < 9; n++) {
            int place = n;
            changesNothing(Edges::stairs, x -> x.few(2, place));
            changesNothing(Edges::told, x -> x.few(3, place));
            changesNothing(Edges::told, x -> x.few(0, place));
        }
    }

    // ---- promise 17: hush

    static void promise17_limitsOfTheWrong() {
        limits(Edges::told, (x, k) -> x.hush(k), 0, 5);
        limits(Edges::stairs, (x, k) -> x.hush(k), 0, 7);
        refuses(() -> people(OLD, OLD), x -> x.hush(0), BAD);
    }

    static void promise17_noneIfItMayBeNow() {
        BellForgiven x = helped(2, 7);
        for (int k = 0; k < 8; k++) {
            due(x.hush(k), NONE);
        }
        due(stairs().hush(7), NONE);
        statuses(x, 0, 0, 0);
    }

    static void promise17_0IfItIsNotInThePeal() {
        BellForgiven x = helped(4, 1);
        due(x.hush(0), 0);
        due(alone(0, PLAIN, 9, HARD).hush(0), 0);
        statuses(x, 0, 0, 0);
    }

    static void promise17_nowNotTomorrow() {
        BellForgiven x = alone(0, APPLE, 2, HARD);
        x.days(2);
        due(x.hush(0), 0);
        x.days(1);
        due(x.hush(0), NONE);
        x = alone(30, PLAIN, 9, EASTER);
        due(x.hush(0), NONE);
        x.days(1);
        due(x.hush(0), 0);
    }

    static void promise17_0IfItIsLetOffAlready() {
        BellForgiven x = alone(0, PLAIN, 1, PLAIN);
        x.rings(0);
        due(x.hush(0), 0);
        statuses(x, 0, 0, 0);
    }

    static void promise17_oneOtherIsEnough() {
        due(helped(3, 1).hush(0), 0b10);
        due(helped(4, 2).hush(0), 0b10);
        due(helped(9, 7).hush(0), 0b10);
    }

    static void promise17_asManyOthersAsItNeeds() {
        due(helped(3, 2).hush(0), 0b110);
        due(helped(3, 3).hush(0), 0b1110);
        due(helped(4, 3).hush(0), 0b110);
        due(helped(4, 4).hush(0), 0b1110);
        due(helped(5, 5).hush(0), 0b1110);
    }

    static void promise17_allSevenOthers() {
        due(helped(3, 7).hush(0), 0b11111110);
        due(helped(8, 7).hush(0), 0b110);
    }

    static void promise17_ofLikeOnesTheLeast() {
        BellForgiven x = stairs();
        due(x.hush(0), 1 << 1);
        due(x.hush(4), 1 << 5);
        due(x.hush(5), 1 << 6);
        due(x.hush(6), 1 << 7);
    }

    static void promise17_theFewestThoughMoreWouldBeLess() {
        BellForgiven x = people(PLAIN, PLAIN, MILD);
        x.wrong(PLAIN, 1, 0, 3);
        x.wrong(PLAIN, 0, 1, 3);
        x.wrong(PLAIN, 0, 1, 3);
        x.wrong(PLAIN, 1, 2, 5);
        due(x.peal(), 0b1111);
        due(x.hush(0), 0b1000);
        due(x.hush(1), 0b1000);
    }

    static void promise17_othersBehindItAreNoHelp() {
        BellForgiven x = helped(3, 1);
        x.wrong(PLAIN, 0, 1, 6);
        x.wrong(PLAIN, 0, 1, 9);
        due(x.peal(), 0b0111);
        due(x.hush(0), 0b0010);
        due(x.hush(2), 0b0001);
    }

    static void promise17_whatWasLetOffCanNotBeWithoutAStroke() {
        BellForgiven x = helped(4, 3);
        x.rings(1);
        due(x.hush(0), 0b1100);
        x.rings(2);
        due(x.hush(0), NONE);
    }

    static void promise17_changesNothing() {
        for (int n = 0; n < 6; n++) {
            int k = n;
            changesNothing(Edges::told, x -> x.hush(k));
            changesNothing(Edges::stairs, x -> x.hush(k));
        }
    }

    // ---- promise 18: round

    static void promise18_limitsOfWho() {
        limits(Edges::told, (x, i) -> x.round(i), 0, 3);
        limits(Edges::full, (x, i) -> x.round(i), 0, 5);
    }

    /** A WRONG that weighs 1 for each pair: by whom, to whom. */
    private static BellForgiven wrongs(int people, int... pairs) {
        BellForgiven x = new BellForgiven();
        for (int i = 0; i < people; i++) {
            x.one(OLD);
        }
        for (int n = 0; n < pairs.length; n += 2) {
            x.wrong(PLAIN, pairs[n], pairs[n + 1], 1);
        }
        return x;
    }

    private static void rounds(BellForgiven x, int... want) {
        for (int i = 0; i < want.length; i++) {
            due(x.round(i), want[i]);
        }
        statuses(x, 0, 0, 0);
    }

    static void promise18_noneWithoutWrongs() {
        rounds(wrongs(2), NONE, NONE);
        rounds(wrongs(1), NONE);
    }

    static void promise18_noneIfItDoesNotComeBack() {
        rounds(wrongs(3, 0, 1, 1, 2), NONE, NONE, NONE);
        rounds(wrongs(3, 0, 1, 0, 2, 1, 2), NONE, NONE, NONE);
    }

    static void promise18_2IsTheShortest() {
        rounds(wrongs(2, 0, 1, 1, 0), 2, 2);
        rounds(wrongs(6, 0, 5, 5, 0), 2, NONE, NONE, NONE, NONE, 2);
    }

    static void promise18_6IsTheLongest() {
        rounds(wrongs(6, 0, 1, 1, 2, 2, 3, 3, 4, 4, 5, 5, 0), 6, 6, 6, 6, 6, 6);
        rounds(wrongs(6, 5, 0, 4, 5, 3, 4, 2, 3, 1, 2, 0, 1), 6, 6, 6, 6, 6, 6);
    }

    static void promise18_eachLengthBetween() {
        rounds(wrongs(3, 0, 1, 1, 2, 2, 0), 3, 3, 3);
        rounds(wrongs(4, 0, 1, 1, 2, 2, 3, 3, 0), 4, 4, 4, 4);
        rounds(wrongs(5, 0, 1, 1, 2, 2, 3, 3, 4, 4, 0), 5, 5, 5, 5, 5);
    }

    static void promise18_theFewest() {
        rounds(wrongs(4, 0, 1, 1, 2, 2, 3, 3, 0, 2, 0), 3, 3, 3, 4);
        rounds(wrongs(4, 0, 1, 1, 2, 2, 3, 3, 0, 1, 0), 2, 2, 4, 4);
    }

    static void promise18_theWayOfTheWrongsCounts() {
        rounds(wrongs(3, 0, 1, 2, 1, 0, 2), NONE, NONE, NONE);
        rounds(wrongs(3, 0, 1, 1, 2, 0, 2), NONE, NONE, NONE);
    }

    static void promise18_aRingThatOneOnlyLeadsToIsNotItsOwn() {
        rounds(wrongs(4, 0, 1, 1, 2, 2, 1, 2, 3), NONE, 2, 2, NONE);
    }

    static void promise18_likeWrongsCountOnce() {
        rounds(wrongs(2, 0, 1, 0, 1, 1, 0, 1, 0), 2, 2);
    }

    static void promise18_whatIsLetOffDoesNotCount() {
        BellForgiven x = wrongs(3, 0, 1, 1, 0, 1, 2, 2, 0);
        rounds(x, 2, 2, 3);
        x.rings(1);
        rounds(x, 3, 3, 3);
        x.rings(0);
        rounds(x, NONE, NONE, NONE);
        x.undo();
        rounds(x, 3, 3, 3);
    }

    static void promise18_aLikeOneNotLetOffIsEnough() {
        BellForgiven x = wrongs(2, 0, 1, 0, 1, 1, 0);
        x.rings(0);
        rounds(x, 2, 2);
        x.rings(1);
        rounds(x, NONE, NONE);
    }

    static void promise18_theEighthWrongMayCloseIt() {
        rounds(wrongs(6, 0, 1, 0, 1, 1, 2, 2, 3, 3, 4, 4, 5, 4, 5, 5, 0), 6, 6, 6, 6, 6, 6);
    }

    static void promise18_changesNothing() {
        for (int n = 0; n < 4; n++) {
            int i = n;
            changesNothing(Edges::told, x -> x.round(i));
        }
    }
}
