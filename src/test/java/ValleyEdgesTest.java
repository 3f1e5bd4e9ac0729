/** The edges of promises 1 to 6: a new object, a valley, one, a wrong, the text's bytes. */
public final class ValleyEdgesTest extends Edges {
    private ValleyEdgesTest() {
    }

    public static void main(String[] args) {
        runAll(ValleyEdgesTest.class);
    }

    // ---- promise 1: a new object

    static void promise01_nobodyIsThere() {
        BellForgiven x = new BellForgiven();
        counts(x, 0, 0, 0, 0);
        due(x.of(0, 0), BAD);
        due(x.round(0), BAD);
        due(x.kinds(0), BAD);
        due(x.ask(0), BAD);
        due(x.first(0, 1), BAD);
        due(x.mark(0, 0, 0, 0), BAD);
        due(x.wrong(PLAIN, 0, 1, 1), BAD);
    }

    static void promise01_noWrongIsThere() {
        BellForgiven x = new BellForgiven();
        due(x.about(0, 0), BAD);
        due(x.rings(0), BAD);
        due(x.when(0), BAD);
        due(x.few(0, NONE), -10);
        due(x.hush(0), BAD);
        due(x.seen(0, 0, 0, 0), BAD);
        due(x.grave(0, 0), BAD);
        due(x.tell(0), BAD);
        due(x.note(0, 1, 0, 0), BAD);
        due(x.is(0), BAD);
        due(x.look(0), BAD);
        due(x.rust(0, 0, 0), BAD);
        statuses(x, 12, 0, 0);
    }

    static void promise01_whatNeedsNobodyIsAnswered() {
        BellForgiven x = new BellForgiven();
        due(x.may(), 0);
        due(x.peal(), 0);
        due(x.easters(999999, 60), 0);
        due(x.forget(0), 0);
        due(x.forget(1), 0);
        due(x.forget(2), 0);
        due(x.clear(), 0);
        due(x.valley(), 0);
        statuses(x, 0, 0, 0);
    }

    static void promise01_theDayIs0() {
        BellForgiven x = new BellForgiven();
        due(x.count(4), 0);
        x.one(EASTER);
        due(x.of(0, 2), 30);
        due(x.days(1), 1);
    }

    static void promise01_nothingIsTold() {
        counts(new BellForgiven(), 0, 0, 0, 0, 0, 0, 0, 0, 0, 0, 0);
    }

    static void promise01_nothingMayBeUndone() {
        BellForgiven x = new BellForgiven();
        due(x.undo(), NO);
        due(x.count(9), 0);
    }

    static void promise01_noImageIsKept() {
        BellForgiven x = new BellForgiven();
        due(x.from(0), NO);
        due(x.from(1), NO);
    }

    static void promise01_theTextIsEmpty() {
        BellForgiven x = new BellForgiven();
        due(x.read(), -10);
        due(x.type('v'), 1);
    }

    static void promise01_theFractionIs0By1() {
        fraction(new BellForgiven(), 0, 1);
    }

    static void promise01_nothingWasRefused() {
        statuses(new BellForgiven(), 0, 0, 0);
    }

    static void promise01_digestOfNothing() {
        long h = 1693;
        for (int n = 0; n < 12; n++) {
            h *= 31;
        }
        due(new BellForgiven().digest(), 31 * h + 1);
    }

    static void promise01_twoObjectsShareNothing() {
        BellForgiven early = new BellForgiven();
        BellForgiven x = told();
        x.one(9);
        x.from(1);
        BellForgiven late = new BellForgiven();
        same(all(late), all(new BellForgiven()));
        same(all(early), all(new BellForgiven()));
        statuses(early, 0, 5, 0);
        early.one(PLAIN);
        due(x.count(0), 4);
    }

    // ---- promise 2: valley

    static void promise02_nobodyWasThere() {
        BellForgiven x = new BellForgiven();
        due(x.valley(), 0);
        due(x.valley(), 0);
    }

    static void promise02_oneWasThere() {
        due(people(OLD).valley(), 1);
    }

    static void promise02_sixWereThere() {
        BellForgiven x = full();
        due(x.valley(), 6);
        due(x.valley(), 0);
    }

    static void promise02_allIsAsAtFirst() {
        BellForgiven x = full();
        x.valley();
        counts(x, 0, 0, 0, 0, 0, 0, 0, 0, 0, 0, 0);
        due(x.may(), 0);
        due(x.peal(), 0);
        due(x.digest(), new BellForgiven().digest());
    }

    static void promise02_numbersBeginAgain() {
        BellForgiven x = full();
        x.valley();
        due(x.about(0, 0), BAD);
        due(x.of(0, 0), BAD);
        due(x.one(GRUDGE), 0);
        due(x.one(HARD), 1);
        due(x.wrong(WORD, 1, 0, 3), 0);
        due(x.of(0, 0), GRUDGE);
        due(x.about(0, 0), WORD);
    }

    static void promise02_asManyComeAgain() {
        BellForgiven x = full();
        x.valley();
        for (int i = 0; i < 6; i++) {
            due(x.one(PLAIN), i);
        }
        for (int k = 0; k < 8; k++) {
            due(x.wrong(PLAIN, 0, 1, 1), k);
        }
        for (int n = 1; n <= 5; n++) {
            due(x.seen(0, 0, 0, 0), n);
            due(x.note(0, 1, 0, 0), n);
            due(x.mark(0, 0, 0, 0), n);
        }
        due(x.note(0, 1, 0, 0), 6);
        due(x.mark(0, 0, 0, 0), 6);
    }

    static void promise02_whoComesIsNotRungAsTheOneBefore() {
        BellForgiven x = rungBy(8, PLAIN);
        x.valley();
        x.one(PLAIN);
        due(x.of(0, 1), 0);
        due(x.of(0, 2), 2);
    }

    static void promise02_aWrongIsNotLetOffNorAsOldAsTheOneBefore() {
        BellForgiven x = rungBy(8, PLAIN);
        x.wrong(PLAIN, 1, 0, 9);
        x.days(60);
        x.valley();
        x.one(PLAIN);
        x.one(PLAIN);
        for (int k = 0; k < 8; k++) {
            x.wrong(OATH, 0, 1, 1);
            due(x.about(k, 4), 0);
            due(x.about(k, 5), 0);
        }
        due(x.may(), 255);
    }

    static void promise02_theDayIs0Again() {
        BellForgiven x = people(OLD);
        pass(x, 999);
        x.valley();
        due(x.count(4), 0);
        x.one(OLD);
        due(x.of(0, 2), 5);
        due(x.days(2), 2);
    }

    static void promise02_whatWasSeenOfOneIsGone() {
        BellForgiven x = people(PLAIN, MILD);
        x.wrong(PLAIN, 0, 1, 5);
        x.seen(0, 0, 4, 1);
        x.note(0, 5, 3, 4);
        x.mark(0, 0, 1, 5);
        x.valley();
        x.one(PLAIN);
        x.one(PLAIN);
        x.wrong(PLAIN, 0, 1, 5);
        due(x.grave(0, 0), 9);
        due(x.is(0), 63);
        due(x.kinds(0), 63);
    }

    static void promise02_nothingMayBeUndone() {
        BellForgiven x = full();
        due(x.count(9), 2);
        x.valley();
        due(x.undo(), NO);
    }

    static void promise02_imagesStay() {
        BellForgiven x = told();
        BellForgiven twin = told();
        x.valley();
        for (int i = 0; i < 2; i++) {
            due(x.from(i), 1);
            twin.from(i);
            due(x.digest(), twin.digest());
            due(x.undo(), twin.undo());
            due(x.digest(), twin.digest());
        }
    }

    static void promise02_theTextStays() {
        BellForgiven x = told("valley;one 4;");
        x.valley();
        due(x.count(10), 13);
        due(x.read(), 2);
        due(x.of(0, 0), GRUDGE);
    }

    static void promise02_theFractionStays() {
        BellForgiven x = told();
        fraction(x, 7, 10);
        x.valley();
        fraction(x, 7, 10);
    }

    static void promise02_statusStays() {
        BellForgiven x = full();
        x.one(6);
        x.one(0);
        x.from(1);
        x.from(1);
        x.valley();
        statuses(x, 1, 2, 1);
    }

    // ---- promise 3: one

    static void promise03_limitsOfTheKind() {
        limits(Edges::told, (x, kind) -> x.one(kind), 0, 5);
    }

    static void promise03_firstNumberIs0() {
        due(new BellForgiven().one(PLAIN), 0);
    }

    static void promise03_sixthComesASeventhIsFull() {
        BellForgiven x = people(0, 1, 2, 3, 4);
        due(x.one(5), 5);
        due(x.count(0), 6);
        due(x.one(0), FULL);
        due(x.count(0), 6);
        statuses(x, 0, 0, 1);
    }

    static void promise03_fullChangesNothing() {
        refuses(Edges::full, x -> x.one(0), FULL);
        refuses(Edges::full, x -> x.one(5), FULL);
    }

    static void promise03_badIsAheadOfFull() {
        refuses(Edges::full, x -> x.one(-1), BAD);
        refuses(Edges::full, x -> x.one(6), BAD);
    }

    static void promise03_eachIsOfTheKindTold() {
        BellForgiven x = people(5, 4, 3, 2, 1, 0);
        for (int i = 0; i < 6; i++) {
            due(x.of(i, 0), 5 - i);
        }
    }

    static void promise03_rungBy0AtFirst() {
        BellForgiven x = rungBy(4, PLAIN);
        x.days(60);
        due(x.one(PLAIN), 2);
        due(x.of(2, 1), 0);
        due(x.of(2, 2), 2);
        due(x.of(2, 3), 0);
        due(x.count(5), 4);
    }

    static void promise03_nothingMayBeUndoneBehindOne() {
        BellForgiven x = told();
        due(x.count(9), 6);
        due(x.one(PLAIN), 4);
        due(x.count(9), 0);
        due(x.undo(), NO);
        due(x.count(4), 8);
        x.days(1);
        due(x.undo(), 8);
        due(x.count(0), 5);
    }

    static void promise03_behindOneThatWasRefusedAllMayBeUndone() {
        BellForgiven x = full();
        x.one(6);
        x.one(0);
        due(x.count(9), 2);
        due(x.undo(), 0);
        due(x.undo(), 0);
        due(x.about(0, 5), 0);
    }

    // ---- promise 4: wrong

    static void promise04_limitsOfTheKind() {
        limits(Edges::told, (x, kind) -> x.wrong(kind, 0, 1, 1), 0, 5);
    }

    static void promise04_limitsOfByWhom() {
        limits(Edges::told, (x, a) -> x.wrong(PLAIN, a, 1, 1), 0, 3);
        limits(() -> people(0, 0), (x, a) -> x.wrong(PLAIN, a, 1 - a & 1, 1), 0, 1);
    }

    static void promise04_limitsOfToWhom() {
        limits(Edges::told, (x, b) -> x.wrong(PLAIN, 1, b, 1), 0, 3);
        limits(() -> people(0, 0), (x, b) -> x.wrong(PLAIN, 1 - b & 1, b, 1), 0, 1);
    }

    static void promise04_limitsOfTheGravity() {
        limits(Edges::told, (x, g) -> x.wrong(PLAIN, 0, 1, g), 1, 9);
    }

    static void promise04_toOneselfIsBad() {
        for (int i = 0; i < 4; i++) {
            int one = i;
            refuses(Edges::told, x -> x.wrong(PLAIN, one, one, 1), BAD);
        }
    }

    static void promise04_oneAloneCanWrongNobody() {
        refuses(() -> people(PLAIN), x -> x.wrong(PLAIN, 0, 1, 1), BAD);
        refuses(() -> people(PLAIN), x -> x.wrong(PLAIN, 1, 0, 1), BAD);
        refuses(() -> people(PLAIN), x -> x.wrong(PLAIN, 0, 0, 1), BAD);
    }

    static void promise04_eighthComesANinthIsFull() {
        BellForgiven x = people(PLAIN, MILD);
        for (int k = 0; k < 8; k++) {
            due(x.wrong(PLAIN, 0, 1, 9), k);
        }
        due(x.count(1), 8);
        due(x.wrong(PLAIN, 0, 1, 9), FULL);
        due(x.count(1), 8);
        statuses(x, 0, 0, 1);
    }

    static void promise04_fullChangesNothing() {
        refuses(Edges::full, x -> x.wrong(0, 0, 1, 1), FULL);
        refuses(Edges::full, x -> x.wrong(5, 5, 4, 9), FULL);
    }

    static void promise04_badIsAheadOfFull() {
        refuses(Edges::full, x -> x.wrong(6, 0, 1, 1), BAD);
        refuses(Edges::full, x -> x.wrong(0, 6, 1, 1), BAD);
        refuses(Edges::full, x -> x.wrong(0, 0, 6, 1), BAD);
        refuses(Edges::full, x -> x.wrong(0, 3, 3, 1), BAD);
        refuses(Edges::full, x -> x.wrong(0, 0, 1, 0), BAD);
        refuses(Edges::full, x -> x.wrong(0, 0, 1, 10), BAD);
    }

    static void promise04_eachIsAsTold() {
        BellForgiven x = people(0, 1, 2, 3, 4, 5);
        x.wrong(WORD, 5, 0, 9);
        x.wrong(PLAIN, 0, 5, 1);
        int[][] want = {{WORD, 5, 0, 9, 0, 0, 9}, {PLAIN, 0, 5, 1, 0, 0, 1}};
        for (int what = 0; what < 7; what++) {
            due(x.about(0, what), want[0][what]);
            due(x.about(1, what), want[1][what]);
        }
    }

    static void promise04_age0AtFirstAlsoOnALateDay() {
        BellForgiven x = people(PLAIN, MILD);
        x.wrong(PLAIN, 0, 1, 5);
        pass(x, 999);
        due(x.wrong(OATH, 0, 1, 5), 1);
        due(x.about(0, 4), 99);
        due(x.about(1, 4), 0);
        due(x.about(1, 6), 5);
    }

    static void promise04_notLetOffAtFirst() {
        BellForgiven x = rungBy(7, PLAIN);
        due(x.wrong(PLAIN, 0, 1, 1), 7);
        due(x.about(7, 5), 0);
        due(x.count(2), 7);
        due(x.of(0, 3), 1);
    }

    static void promise04_theSameMayBeToldTwice() {
        BellForgiven x = people(PLAIN, MILD);
        due(x.wrong(PLAIN, 0, 1, 5), 0);
        due(x.wrong(PLAIN, 0, 1, 5), 1);
        x.rings(0);
        due(x.about(1, 5), 0);
    }

    static void promise04_nothingMayBeUndoneBehindAWrong() {
        BellForgiven x = told();
        due(x.wrong(PLAIN, 0, 1, 1), 6);
        due(x.count(9), 0);
        due(x.undo(), NO);
        due(x.count(4), 8);
        x.days(1);
        due(x.undo(), 8);
        due(x.count(1), 7);
    }

    static void promise04_behindAWrongThatWasRefusedAllMayBeUndone() {
        BellForgiven x = full();
        x.wrong(0, 0, 0, 1);
        x.wrong(0, 0, 1, 1);
        due(x.count(9), 2);
        due(x.undo(), 0);
        due(x.undo(), 0);
        due(x.about(0, 5), 0);
    }

    // ---- promise 5: type

    static void promise05_limitsOfTheByte() {
        limits(Edges::told, (x, c) -> x.type(c), 0, 127);
    }

    static void promise05_eachByteComes() {
        BellForgiven x = new BellForgiven();
        for (int c = 0; c < 128; c++) {
            due(x.type(c), c + 1);
        }
        statuses(x, 0, 0, 0);
    }

    static void promise05_a150thComesA151stIsFull() {
        BellForgiven x = new BellForgiven();
        for (int n = 1; n <= 150; n++) {
            due(x.type(' '), n);
        }
        due(x.type(' '), FULL);
        due(x.count(10), 150);
        statuses(x, 0, 0, 1);
        due(x.read(), -160);
    }

    static void promise05_fullChangesNothing() {
        String text = "valley;" + " ".repeat(143);
        refuses(() -> told(text), x -> x.type('v'), FULL);
        refuses(() -> told(text), x -> x.type(0), FULL);
        refuses(() -> told(text), x -> x.type(127), FULL);
    }

    static void promise05_badIsAheadOfFull() {
        String text = "valley;" + " ".repeat(143);
        refuses(() -> told(text), x -> x.type(-1), BAD);
        refuses(() -> told(text), x -> x.type(128), BAD);
    }

    static void promise05_comesBehindTheText() {
        BellForgiven x = new BellForgiven();
        write(x, "valley;one 4");
        due(x.read(), -22);
        due(x.type(';'), 13);
        due(x.read(), 2);
        due(x.of(0, 0), GRUDGE);
    }

    static void promise05_goesOnBehindARead() {
        BellForgiven x = new BellForgiven();
        write(x, "valley;");
        x.read();
        due(x.type('o'), 8);
        due(x.count(10), 8);
    }

    // ---- promise 6: clear

    static void promise06_anEmptyOneHad0() {
        BellForgiven x = new BellForgiven();
        due(x.clear(), 0);
        due(x.clear(), 0);
        statuses(x, 0, 0, 0);
    }

    static void promise06_aFullOneHad150() {
        BellForgiven x = new BellForgiven();
        for (int n = 0; n < 150; n++) {
            x.type(';');
        }
        due(x.clear(), 150);
        due(x.count(10), 0);
        due(x.type(';'), 1);
    }

    static void promise06_whatWasTypedAheadIsNotRead() {
        BellForgiven x = new BellForgiven();
        write(x, "valley;one 0;one 1;");
        due(x.clear(), 19);
        due(x.read(), -10);
        for (char c : "valley;".toCharArray()) {
            x.type(c);
        }
        due(x.read(), 1);
        due(x.count(0), 0);
    }

    static void promise06_allElseStays() {
        BellForgiven x = told();
        BellForgiven twin = told("");
        due(x.clear(), 33);
        same(all(x), all(twin));
    }
}
