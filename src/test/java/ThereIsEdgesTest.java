import java.util.List;
import java.util.function.ToLongFunction;

/** The edges of promises 32 to 37: the fraction, images, what was refused, counts, the digest. */
public final class ThereIsEdgesTest extends Edges {
    private ThereIsEdgesTest() {
    }

    public static void main(String[] args) {
        runAll(ThereIsEdgesTest.class);
    }

    private static BellForgiven helped() {
        BellForgiven x = people(PLAIN, MILD);
        x.wrong(PLAIN, 1, 0, 3);
        x.wrong(PLAIN, 0, 1, 1);
        return x;
    }

    // ---- promise 32: part

    static void promise32_limitsOfWhat() {
        limits(Edges::told, (x, what) -> x.part(what), 0, 1);
        limits(BellForgiven::new, (x, what) -> x.part(what), 0, 1);
    }

    static void promise32_0By1AtFirst() {
        fraction(new BellForgiven(), 0, 1);
        fraction(people(OLD, OLD), 0, 1);
    }

    static void promise32_theLastRustCounts() {
        BellForgiven x = helped();
        x.rust(0, 2, 1);
        fraction(x, 9, 10);
        x.rust(0, 2, 6);
        fraction(x, 2, 5);
        x.rust(0, 0, 6);
        fraction(x, 0, 1);
        x.rust(1, 0, 6);
        fraction(x, 1, 1);
    }

    static void promise32_staysWhateverElseIsCalled() {
        BellForgiven x = told();
        x.days(60);
        x.rings(1);
        x.undo();
        x.one(PLAIN);
        x.wrong(PLAIN, 0, 1, 1);
        x.easters(5, 60);
        x.image(0);
        x.from(1);
        x.read();
        x.clear();
        x.valley();
        fraction(x, 7, 10);
    }

    static void promise32_changesNothing() {
        changesNothing(Edges::told, x -> x.part(0));
        changesNothing(Edges::told, x -> x.part(1));
    }

    // ---- promise 33: image

    static void promise33_limitsOfTheNumber() {
        limits(Edges::told, (x, i) -> x.image(i), 0, 1);
        limits(Edges::full, (x, i) -> x.image(i), 0, 1);
    }

    static void promise33_answers1() {
        BellForgiven x = new BellForgiven();
        due(x.image(0), 1);
        due(x.image(1), 1);
        due(x.image(1), 1);
        due(told().image(0), 1);
    }

    static void promise33_anImageOfNobody() {
        BellForgiven x = new BellForgiven();
        x.image(1);
        x.one(OLD);
        x.days(5);
        due(x.from(0), NO);
        due(x.from(1), 1);
        counts(x, 0, 0, 0, 0, 0, 0, 0, 0, 0, 0, 0);
    }

    static void promise33_inThePlaceOfTheOneBefore() {
        BellForgiven x = new BellForgiven();
        for (int n = 0; n < 4; n++) {
            x.image(0);
            x.one(PLAIN);
        }
        x.from(0);
        due(x.count(0), 3);
    }

    static void promise33_theOtherStays() {
        BellForgiven x = new BellForgiven();
        x.image(0);
        x.one(PLAIN);
        x.image(1);
        x.one(PLAIN);
        x.from(0);
        due(x.count(0), 0);
        x.from(1);
        due(x.count(0), 1);
        x.image(0);
        x.valley();
        x.from(1);
        due(x.count(0), 1);
        x.from(0);
        due(x.count(0), 1);
    }

    static void promise33_whatComesLaterIsNotInIt() {
        BellForgiven x = told();
        x.image(0);
        long before = x.digest();
        x.days(9);
        x.rings(1);
        x.forget(0);
        x.seen(5, 9, 9, 0);
        x.forget(1);
        x.note(5, 9, 9, 9);
        x.forget(2);
        x.mark(3, 9, 9, 9);
        x.one(EASTER);
        x.wrong(WORD, 4, 0, 9);
        x.days(1);
        x.from(0);
        due(x.digest(), before);
    }

    static void promise33_changesNothingElse() {
        BellForgiven x = told();
        BellForgiven twin = told();
        x.image(0);
        due(x.digest(), twin.digest());
        due(x.count(9), twin.count(9));
        x.from(1);
        twin.from(1);
        due(x.digest(), twin.digest());
        statuses(x, 0, 0, 0);
    }

    // ---- promise 34: from

    static void promise34_limitsOfTheNumber() {
        limits(Edges::told, (x, i) -> x.from(i), 0, 1);
    }

    static void promise34_noIfNoneWasKept() {
        refuses(Edges::full, x -> x.from(0), NO);
        refuses(Edges::full, x -> x.from(1), NO);
        refuses(BellForgiven::new, x -> x.from(0), NO);
        refuses(BellForgiven::new, x -> x.from(1), NO);
    }

    static void promise34_noIfOnlyTheOtherWasKept() {
        for (int n = 0; n < 2; n++) {
            int kept = n;
            refuses(() -> {
                BellForgiven x = full();
                x.image(kept);
                return x;
            }, x -> x.from(1 - kept), NO);
        }
    }

    static void promise34_badIsAheadOfNo() {
        refuses(Edges::full, x -> x.from(2), BAD);
        refuses(Edges::full, x -> x.from(-1), BAD);
    }

    static void promise34_answers1() {
        BellForgiven x = told();
        due(x.from(0), 1);
        due(x.from(0), 1);
        due(x.from(1), 1);
    }

    static void promise34_allIsAsWhenItWasKept() {
        for (int n = 0; n < 2; n++) {
            BellForgiven x = n == 0 ? told() : full();
            BellForgiven twin = n == 0 ? told() : full();
            x.image(1);
            twin.image(1);
            x.valley();
            x.one(OLD);
            x.one(OLD);
            x.wrong(DEATH, 1, 0, 1);
            x.days(44);
            x.rings(0);
            x.from(1);
            same(all(x), all(twin));
        }
    }

    static void promise34_whatMayBeUndoneTheyKeep() {
        BellForgiven x = new BellForgiven();
        for (int n = 0; n < 12; n++) {
            x.days(1);
        }
        x.image(0);
        for (int n = 0; n < 8; n++) {
            x.undo();
        }
        x.days(60);
        x.from(0);
        due(x.count(9), 8);
        for (int n = 11; n >= 4; n--) {
            due(x.undo(), n);
        }
        due(x.undo(), NO);
    }

    static void promise34_anImageWithNothingToUndo() {
        BellForgiven x = people(OLD);
        x.image(0);
        x.days(3);
        x.from(0);
        due(x.undo(), NO);
        due(x.count(4), 0);
    }

    static void promise34_itGoesOnFromOne() {
        BellForgiven x = told();
        x.from(0);
        due(x.count(4), 3);
        due(x.days(5), 8);
        due(x.rings(0), 1);
        due(x.undo(), 8);
        due(x.undo(), 3);
        due(x.undo(), 0);
        due(x.undo(), NO);
        due(x.one(PLAIN), 4);
        due(x.wrong(PLAIN, 4, 0, 1), 6);
    }

    static void promise34_theImageStaysWhateverGoesOn() {
        BellForgiven x = told();
        x.from(1);
        long before = x.digest();
        x.days(5);
        x.rings(4);
        x.seen(0, 0, 0, 0);
        x.one(PLAIN);
        x.from(1);
        due(x.digest(), before);
        for (int n = 0; n < 4; n++) {
            x.undo();
        }
        x.from(1);
        due(x.digest(), before);
    }

    static void promise34_theTextStays() {
        BellForgiven x = told("valley;");
        x.image(0);
        write(x, "valley;one 4;");
        x.from(0);
        due(x.count(10), 13);
        due(x.read(), 2);
        due(x.of(0, 0), GRUDGE);
    }

    static void promise34_theFractionStays() {
        BellForgiven x = helped();
        x.rust(0, 2, 1);
        x.image(0);
        x.rust(0, 2, 3);
        x.from(0);
        fraction(x, 7, 10);
    }

    static void promise34_statusStays() {
        BellForgiven x = full();
        x.one(9);
        x.image(0);
        x.one(9);
        x.one(0);
        x.rings(0);
        x.from(0);
        statuses(x, 2, 1, 1);
    }

    // ---- promise 35: status

    static void promise35_limitsOfWhat() {
        limits(Edges::told, (x, what) -> x.status(what), 0, 2, -1);
        limits(BellForgiven::new, (x, what) -> x.status(what), 0, 2, -1);
    }

    static void promise35_anotherWhatCountsAsBad() {
        BellForgiven x = new BellForgiven();
        due(x.status(3), -1);
        due(x.status(-1), -1);
        statuses(x, 2, 0, 0);
    }

    private static final List<ToLongFunction<BellForgiven>> BAD_CALLS = List.of(x -> x.one(6),
            x -> x.wrong(6, 0, 1, 1), x -> x.type(128), x -> x.days(0), x -> x.rings(6), x -> x.of(4, 0),
            x -> x.about(6, 0), x -> x.when(6), x -> x.hush(6), x -> x.round(4), x -> x.seen(6, 0, 0, 0),
            x -> x.grave(0, 3), x -> x.tell(6), x -> x.note(0, 0, 0, 0), x -> x.mark(4, 0, 0, 0),
            x -> x.forget(3), x -> x.is(6), x -> x.look(6), x -> x.kinds(4), x -> x.ask(4),
            x -> x.first(0, 0), x -> x.rust(0, 1, 0), x -> x.easters(-1, 0), x -> x.part(2),
            x -> x.image(2), x -> x.from(2), x -> x.count(11));

    static void promise35_eachCallRefusedAsBadCountsOnce() {
        BellForgiven x = told();
        int bad = 0;
        for (ToLongFunction<BellForgiven> call : BAD_CALLS) {
            due(call.applyAsLong(x), BAD);
            bad++;
            statuses(x, bad, 0, 0);
        }
        due(x.few(6, NONE), -10);
        due(x.few(0, -2), -10);
        due(x.status(3), -1);
        statuses(x, bad + 3, 0, 0);
    }

    static void promise35_eachCallRefusedAsNoCountsOnce() {
        BellForgiven x = new BellForgiven();
        due(x.undo(), NO);
        statuses(x, 0, 1, 0);
        due(x.from(0), NO);
        statuses(x, 0, 2, 0);
        x.one(PLAIN);
        x.one(HARD);
        x.wrong(PLAIN, 0, 1, 9);
        due(x.rings(0), NO);
        statuses(x, 0, 3, 0);
    }

    static void promise35_eachCallRefusedAsFullCountsOnce() {
        BellForgiven x = full();
        for (int n = 0; n < 150; n++) {
            x.type(0);
        }
        due(x.one(0), FULL);
        due(x.wrong(0, 0, 1, 1), FULL);
        due(x.type(0), FULL);
        due(x.seen(0, 0, 0, 0), FULL);
        due(x.note(0, 1, 0, 0), FULL);
        due(x.mark(0, 0, 0, 0), FULL);
        statuses(x, 0, 0, 6);
    }

    static void promise35_answersThatAreNoRefusalsDoNotCount() {
        BellForgiven x = people(PLAIN, HARD);
        x.wrong(PLAIN, 0, 1, 9);
        x.seen(0, 0, 0, 1);
        x.note(0, 1, 0, 0);
        x.mark(0, 0, 1, 0);
        due(x.when(0), NONE);
        due(x.few(0, NONE), -6);
        due(x.hush(0), 0);
        due(x.round(0), NONE);
        due(x.grave(0, 1), NONE);
        due(x.tell(0), NONE);
        due(x.look(0), NONE);
        due(x.ask(0), NONE);
        due(x.read(), -10);
        x.type('x');
        due(x.read(), -10);
        x.wrong(PLAIN, 1, 0, 1);
        due(x.few(1, 1), -5);
        due(x.hush(1), NONE);
        statuses(x, 0, 0, 0);
    }

    static void promise35_aRefusedCallCountsForOneReasonOnly() {
        BellForgiven x = full();
        x.one(6);
        x.wrong(0, 0, 0, 1);
        x.seen(0, 0, 0, 2);
        x.from(2);
        x.rings(8);
        statuses(x, 5, 0, 0);
    }

    static void promise35_manyThatWereRefused() {
        BellForgiven x = new BellForgiven();
        for (int n = 0; n < 400; n++) {
            x.of(0, 0);
        }
        for (int n = 0; n < 100; n++) {
            x.undo();
        }
        statuses(x, 400, 100, 0);
    }

    static void promise35_nothingTakesThemBack() {
        BellForgiven x = told();
        x.one(9);
        x.rings(0);
        x.from(0);
        x.undo();
        x.clear();
        x.forget(0);
        x.valley();
        x.image(0);
        statuses(x, 1, 1, 0);
    }

    static void promise35_changesNothing() {
        for (int n = 0; n < 3; n++) {
            int what = n;
            changesNothing(Edges::told, x -> x.status(what));
        }
    }

    // ---- promise 36: count

    static void promise36_limitsOfWhat() {
        limits(Edges::told, (x, what) -> x.count(what), 0, 10);
        limits(BellForgiven::new, (x, what) -> x.count(what), 0, 10);
    }

    static void promise36_allAre0AtFirst() {
        counts(new BellForgiven(), 0, 0, 0, 0, 0, 0, 0, 0, 0, 0, 0);
    }

    static void promise36_eachAtItsMost() {
        BellForgiven x = full();
        for (int n = 0; n < 150; n++) {
            x.type(0);
        }
        pass(x, 1000);
        counts(x, 6, 8, 1, 6, 999, 1, 5, 6, 6, 8, 150);
        BellForgiven y = rungBy(8, PLAIN);
        counts(y, 2, 8, 8, 0, 0, 8, 0, 0, 0, 1, 0);
    }

    static void promise36_peopleFrom0To6() {
        BellForgiven x = new BellForgiven();
        for (int n = 0; n < 6; n++) {
            due(x.count(0), n);
            x.one(PLAIN);
        }
        due(x.count(0), 6);
    }

    static void promise36_wrongsFrom0To8LetOffFrom0To8() {
        BellForgiven x = stairs();
        due(x.count(1), 8);
        for (int k = 7; k >= 0; k--) {
            due(x.count(2), 7 - k);
            x.rings(k);
        }
        due(x.count(2), 8);
        due(x.count(1), 8);
    }

    static void promise36_guiltyAreOnesNotWrongs() {
        BellForgiven x = people(OLD, OLD, OLD);
        due(x.count(3), 0);
        x.wrong(PLAIN, 0, 1, 1);
        x.wrong(PLAIN, 0, 2, 1);
        due(x.count(3), 1);
        x.wrong(PLAIN, 2, 1, 1);
        due(x.count(3), 2);
        x.rings(0);
        due(x.count(3), 2);
        x.rings(1);
        due(x.count(3), 1);
        x.rings(2);
        due(x.count(3), 0);
    }

    static void promise36_strokesOfAllTogether() {
        BellForgiven x = people(OLD, OLD, OLD);
        x.wrong(PLAIN, 0, 1, 1);
        x.wrong(PLAIN, 1, 2, 1);
        x.wrong(PLAIN, 2, 0, 1);
        for (int k = 0; k < 3; k++) {
            due(x.count(5), k);
            x.rings(k);
        }
        due(x.count(5), 3);
        x.undo();
        due(x.count(5), 2);
    }

    static void promise36_thoseThatMayBeUndoneFrom0To8() {
        BellForgiven x = new BellForgiven();
        for (int n = 0; n <= 10; n++) {
            due(x.count(9), Math.min(8, n));
            x.days(1);
        }
    }

    static void promise36_bytesFrom0To150() {
        BellForgiven x = new BellForgiven();
        for (int n = 0; n < 150; n++) {
            due(x.count(10), n);
            x.type(' ');
        }
        due(x.count(10), 150);
        x.type(' ');
        due(x.count(10), 150);
    }

    static void promise36_changesNothing() {
        for (int n = 0; n < 11; n++) {
            int what = n;
            changesNothing(Edges::told, x -> x.count(what));
        }
    }

    // ---- promise 37: digest

    private static long h(long... values) {
        long h = 1693;
        for (long v : values) {
            h = 31 * h + v;
        }
        return h;
    }

    static void promise37_ofNothing() {
        due(new BellForgiven().digest(), h(0, 0, 0, 0, 0, 0, 0, 0, 0, 0, 0, 0, 1));
    }

    static void promise37_ofOne() {
        due(people(OLD).digest(), h(1, 0, 0, 0, 0, 0, 0, 0, 0, 0, 0, OLD, 0, 0, 1));
    }

    static void promise37_ofAWrongItsFirstSix() {
        BellForgiven x = people(MILD, HARD);
        x.wrong(DEATH, 1, 0, 2);
        due(x.digest(), h(2, 1, 0, 1, 0, 0, 0, 0, 0, 0, 0, MILD, 0, HARD, 0, DEATH, 1, 0, 2, 0, 0, 0, 1));
        x.days(3);
        x.rings(0);
        due(x.digest(), h(2, 1, 1, 0, 3, 1, 0, 0, 0, 2, 0, MILD, 0, HARD, 1, DEATH, 1, 0, 2, 3, 1, 0, 1));
    }

    static void promise37_seenThenNotesThenMarksThenTheFraction() {
        BellForgiven x = people(MILD, HARD);
        x.wrong(PLAIN, 1, 0, 2);
        x.mark(1, 2, 3, 4);
        x.mark(0, 9, 99, 60);
        x.note(0, 9, 8, 7);
        x.note(0, 1, 0, 40);
        x.seen(0, 99, 40, 1);
        x.seen(0, 5, 6, 0);
        x.rust(0, 0, 0);
        due(x.digest(), h(2, 1, 0, 1, 0, 0, 2, 2, 2, 0, 0, MILD, 0, HARD, 0, PLAIN, 1, 0, 2, 0, 0,
                0, 99, 40, 1, 0, 5, 6, 0, 0, 9, 8, 7, 0, 1, 0, 40, 1, 2, 3, 4, 0, 9, 99, 60, 1, 1));
    }

    static void promise37_theFractionIsTheLast() {
        BellForgiven x = helped();
        x.rust(0, 2, 3);
        due(x.digest(), h(2, 2, 0, 2, 0, 0, 0, 0, 0, 0, 0, PLAIN, 0, MILD, 0, PLAIN, 1, 0, 3, 0, 0,
                PLAIN, 0, 1, 1, 0, 0, 7, 10));
    }

    static void promise37_ofTheTextOnlyItsLength() {
        BellForgiven x = people(OLD);
        x.type('a');
        long one = x.digest();
        due(one, h(1, 0, 0, 0, 0, 0, 0, 0, 0, 0, 1, OLD, 0, 0, 1));
        x.clear();
        x.type('b');
        due(x.digest(), one);
    }

    static void promise37_ofWhatMayBeUndoneOnlyHowMuch() {
        BellForgiven x = new BellForgiven();
        x.days(1);
        x.days(2);
        BellForgiven y = new BellForgiven();
        y.days(2);
        y.days(1);
        due(x.digest(), y.digest());
        due(x.digest(), h(0, 0, 0, 0, 3, 0, 0, 0, 0, 2, 0, 0, 1));
    }

    static void promise37_withoutStatusAndImages() {
        BellForgiven x = told();
        long before = x.digest();
        x.one(9);
        x.rings(0);
        x.image(0);
        due(x.digest(), before);
    }

    /** By what the other calls tell: of a valley as full as can be. */
    static void promise37_ofAllThatThereCanBe() {
        BellForgiven x = full();
        long[] a = new long[11 + 12 + 48 + 20 + 24 + 24 + 2];
        int at = 0;
        for (int what = 0; what < 11; what++) {
            a[at++] = x.count(what);
        }
        for (int i = 0; i < 6; i++) {
            a[at++] = x.of(i, 0);
            a[at++] = x.of(i, 1);
        }
        for (int k = 0; k < 8; k++) {
            for (int what = 0; what < 6; what++) {
                a[at++] = x.about(k, what);
            }
        }
        for (int n = 0; n < 5; n++) {
            at = put(a, at, n, n, 4, n % 2);
        }
        for (int n = 0; n < 6; n++) {
            at = put(a, at, n, 3, n, 3);
        }
        for (int n = 0; n < 6; n++) {
            at = put(a, at, n, 1, n, 3);
        }
        a[at++] = 0;
        a[at++] = 1;
        due(at, a.length);
        due(x.digest(), h(a));
    }

    private static int put(long[] a, int at, long... values) {
        System.arraycopy(values, 0, a, at, values.length);
        return at + values.length;
    }

    static void promise37_forgottenOnesAreNotInIt() {
        BellForgiven x = full();
        x.forget(0);
        x.forget(1);
        x.forget(2);
        BellForgiven y = people(PLAIN, MILD, HARD, EASTER, GRUDGE, OLD);
        for (int k = 0; k < 8; k++) {
            y.wrong(k % 6, k % 6, (k + 1) % 6, k + 1);
        }
        y.rings(0);
        y.days(2);
        due(x.digest(), y.digest());
    }

    static void promise37_changesNothing() {
        changesNothing(Edges::told, x -> x.digest());
        changesNothing(Edges::full, x -> x.digest());
    }
}
