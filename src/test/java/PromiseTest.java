import static java.lang.Integer.MAX_VALUE;
import static java.lang.Integer.MIN_VALUE;

/** For each promise of the document: ordinary inputs, the edges that it names, wrong inputs. */
public final class PromiseTest {
    private static final int NONE = BellForgiven.NONE, BAD = BellForgiven.BAD;
    private static final int NO = BellForgiven.NO, FULL = BellForgiven.FULL;
    private static final int PLAIN = 0, APPLE = 1, OATH = 2, LATE = 3, DEATH = 4, WORD = 5;
    private static final int MILD = 1, HARD = 2, EASTER = 3, GRUDGE = 4, OLD = 5;
    private static final int[] BEYOND = {MIN_VALUE, -3, -2, -1, MAX_VALUE};

    public static void main(String[] args) {
        constants();
        newObject();
        valley();
        one();
        wrong();
        type();
        clear();
        readItems();
        readFaults();
        readNumbers();
        readTakesThePlace();
        days();
        rings();
        undo();
        ofPeople();
        mercies();
        about();
        weights();
        may();
        peal();
        when();
        few();
        hush();
        round();
        seen();
        grave();
        tell();
        note();
        mark();
        forget();
        is();
        look();
        kinds();
        ask();
        first();
        rust();
        easters();
        part();
        image();
        from();
        status();
        count();
        digest();
        Due.end();
    }

    // ---- helpers

    private static BellForgiven people(int... kinds) {
        BellForgiven x = new BellForgiven();
        for (int kind : kinds) {
            x.one(kind);
        }
        return x;
    }

    /** Lets the bell go for n wrongs by 0: 1 is to let all of them off. */
    private static BellForgiven rungBy(int n, int kind) {
        BellForgiven x = people(kind, OLD);
        for (int k = 0; k < n; k++) {
            x.wrong(PLAIN, 0, 1, 1);
            x.rings(k);
        }
        return x;
    }

    private static void pass(BellForgiven x, int n) {
        for (int left = n; left > 0; left -= 60) {
            x.days(Math.min(60, left));
        }
    }

    private static void write(BellForgiven x, String text) {
        x.clear();
        for (int n = 0; n < text.length(); n++) {
            x.type(text.charAt(n));
        }
    }

    private static int read(String text) {
        BellForgiven x = new BellForgiven();
        write(x, text);
        return x.read();
    }

    private static void reads(String text, int items) {
        Due.is("read of \"" + text + "\"", read(text), items);
    }

    private static void faultAt(String text, int place) {
        reads(text, -10 - place);
        BellForgiven x = people(MILD, HARD);
        x.wrong(PLAIN, 0, 1, 1);
        x.days(2);
        x.seen(0, 1, 2, 1);
        write(x, text);
        long before = x.digest();
        x.read();
        Due.is("digest behind a fault in \"" + text + "\"", x.digest(), before);
        Due.is("status(0) behind a fault", x.status(0), 0);
    }


    private static void counts(BellForgiven x, int... want) {
        for (int what = 0; what < want.length; what++) {
            Due.is("count(" + what + ")", x.count(what), want[what]);
        }
    }

    private static void statuses(BellForgiven x, int bad, int no, int full) {
        Due.is("status(0)", x.status(0), bad);
        Due.is("status(1)", x.status(1), no);
        Due.is("status(2)", x.status(2), full);
    }

    private static void fraction(BellForgiven x, long above, long below) {
        Due.is("part(0)", x.part(0), above);
        Due.is("part(1)", x.part(1), below);
    }

    /** A valley in which all that can be told is told. */
    private static BellForgiven full() {
        BellForgiven x = people(PLAIN, MILD, EASTER);
        x.wrong(PLAIN, 0, 1, 5);
        x.wrong(APPLE, 1, 0, 9);
        x.wrong(WORD, 2, 1, 4);
        x.days(3);
        x.rings(0);
        x.seen(1, 3, 4, 1);
        x.seen(2, 3, 4, 0);
        x.note(1, 2, 3, 4);
        x.mark(2, 4, 5, 6);
        x.type(';');
        x.rust(2, 0, 0);
        return x;
    }

    // ---- the promises

    private static void constants() {
        Due.part("the face");
        Due.is("NONE", NONE, -1);
        Due.is("BAD", BAD, -2);
        Due.is("NO", NO, -3);
        Due.is("FULL", FULL, -4);
    }

    private static void newObject() {
        Due.part("promise 1");
        BellForgiven x = new BellForgiven();
        counts(x, 0, 0, 0, 0, 0, 0, 0, 0, 0, 0, 0);
        statuses(x, 0, 0, 0);
        fraction(x, 0, 1);
        Due.is("may()", x.may(), 0);
        Due.is("peal()", x.peal(), 0);
        Due.is("undo()", x.undo(), NO);
        Due.is("from(0)", x.from(0), NO);
        Due.is("from(1)", x.from(1), NO);
        Due.is("one(0)", x.one(0), 0);
    }

    private static void valley() {
        Due.part("promise 2");
        BellForgiven x = full();
        x.image(1);
        x.one(9);
        Due.is("valley()", x.valley(), 3);
        counts(x, 0, 0, 0, 0, 0, 0, 0, 0, 0, 0, 1);
        fraction(x, 1, 1);
        statuses(x, 1, 0, 0);
        Due.is("undo()", x.undo(), NO);
        Due.is("valley() again", x.valley(), 0);
        x.one(PLAIN);
        Due.is("of(0, 1): not rung as the one before", x.of(0, 1), 0);
        Due.is("from(1)", x.from(1), 1);
        counts(x, 3, 3, 1, 2, 3, 1, 2, 1, 1, 2, 1);
        x.valley();
        x.one(OLD);
        x.one(OLD);
        x.wrong(PLAIN, 0, 1, 1);
        Due.is("about(0, 4): not as old as the one before", x.about(0, 4), 0);
        Due.is("about(0, 5): not let off as the one before", x.about(0, 5), 0);
    }

    private static void one() {
        Due.part("promise 3");
        BellForgiven x = new BellForgiven();
        for (int kind : BEYOND) {
            Due.is("one(" + kind + ")", x.one(kind), BAD);
        }
        Due.is("one(6)", x.one(6), BAD);
        for (int n = 0; n < 6; n++) {
            Due.is("one(" + (5 - n) + ")", x.one(5 - n), n);
            Due.is("of(" + n + ", 0)", x.of(n, 0), 5 - n);
        }
        Due.is("a 7th", x.one(0), FULL);
        Due.is("a 7th of no kind", x.one(6), BAD);
        statuses(x, 7, 0, 1);
        counts(x, 6, 0, 0, 0, 0, 0);
    }

    private static void wrong() {
        Due.part("promise 4");
        BellForgiven x = people(PLAIN, MILD);
        for (int bad : BEYOND) {
            Due.is("wrong kind " + bad, x.wrong(bad, 0, 1, 1), BAD);
            Due.is("wrong a " + bad, x.wrong(0, bad, 1, 1), BAD);
            Due.is("wrong b " + bad, x.wrong(0, 0, bad, 1), BAD);
            Due.is("wrong gravity " + bad, x.wrong(0, 0, 1, bad), BAD);
        }
        Due.is("wrong(6, 0, 1, 1)", x.wrong(6, 0, 1, 1), BAD);
        Due.is("wrong(0, 2, 1, 1)", x.wrong(0, 2, 1, 1), BAD);
        Due.is("wrong(0, 0, 2, 1)", x.wrong(0, 0, 2, 1), BAD);
        Due.is("wrong(0, 1, 1, 1)", x.wrong(0, 1, 1, 1), BAD);
        Due.is("wrong(0, 0, 1, 0)", x.wrong(0, 0, 1, 0), BAD);
        Due.is("wrong(0, 0, 1, 10)", x.wrong(0, 0, 1, 10), BAD);
        for (int k = 0; k < 8; k++) {
            Due.is("wrong " + k, x.wrong(k % 6, k % 2, 1 - k % 2, k + 1), k);
        }
        Due.is("wrong(0, 0, 1, 9)", x.wrong(0, 0, 1, 9), FULL);
        Due.is("wrong(0, 0, 0, 9)", x.wrong(0, 0, 0, 9), BAD);
        statuses(x, 27, 0, 1);
        Due.is("count(1)", x.count(1), 8);
        for (int k = 0; k < 8; k++) {
            int[] want = {k % 6, k % 2, 1 - k % 2, k + 1, 0, 0};
            for (int what = 0; what < 6; what++) {
                Due.is("about(" + k + ", " + what + ")", x.about(k, what), want[what]);
            }
        }
    }

    private static void type() {
        Due.part("promise 5");
        BellForgiven x = new BellForgiven();
        for (int c : BEYOND) {
            Due.is("type(" + c + ")", x.type(c), BAD);
        }
        Due.is("type(128)", x.type(128), BAD);
        Due.is("type(0)", x.type(0), 1);
        Due.is("type(127)", x.type(127), 2);
        for (int n = 3; n <= 150; n++) {
            Due.is("type(32)", x.type(32), n);
        }
        Due.is("a 151st byte", x.type(32), FULL);
        Due.is("a 151st byte that is none", x.type(128), BAD);
        Due.is("count(10)", x.count(10), 150);
        statuses(x, 7, 0, 1);
    }

    private static void clear() {
        Due.part("promise 6");
        BellForgiven x = new BellForgiven();
        Due.is("clear()", x.clear(), 0);
        write(x, "valley;one 0;");
        Due.is("clear()", x.clear(), 13);
        Due.is("count(10)", x.count(10), 0);
        Due.is("clear()", x.clear(), 0);
        Due.is("read()", x.read(), -10);
        Due.is("type(118)", x.type(118), 1);
    }

    private static void readItems() {
        Due.part("promise 7, items");
        reads("valley;", 1);
        reads("valley;days 3;", 2);
        reads("  valley  ;  ", 1);
        reads("valley;one 0;one 5;", 3);
        reads("valley;one0;one5;wrong0 0 1 9;days99;", 5);
        reads("valley;one 00;one 05;wrong 05 00 01 09;days 01;", 5);
        reads("valley ; one 1 ; one 1 ; wrong 0 1 0 4 ; ring 0 ;", 5);
        reads("valley;one 0;one 0;one 0;one 0;one 0;one 0;", 7);
        String eight = "valley;one1;one2;";
        for (int k = 0; k < 8; k++) {
            eight += "wrong0 1 0 5;";
        }
        reads(eight, 11);
    }

    private static void readFaults() {
        Due.part("promise 7, faults");
        faultAt("", 0);
        faultAt("   ", 3);
        faultAt("valley", 6);
        faultAt("valley  ", 8);
        faultAt("valley;one", 10);
        faultAt("valley;one 3", 12);
        faultAt("valley;one 3 ", 13);
        faultAt("valley;one 0;one 0;wrong 0 0", 28);
        faultAt("vall", 0);
        faultAt("valleys;", 0);
        faultAt("  bell;", 2);
        faultAt("one 0;", 0);
        faultAt(" days 3;", 1);
        faultAt("wrong 0 0 1 1;", 0);
        faultAt("ring 0;", 0);
        faultAt("; valley;", 0);
        faultAt("7;", 0);
        faultAt("valley;valley;", 7);
        faultAt("valley;one 0; valley;", 14);
        faultAt("valley one 0;", 7);
        faultAt("valley 0;", 7);
        faultAt("valley;;", 7);
        faultAt("valley;oneone 0;", 7);
        faultAt("valley;0;", 7);
        faultAt("valley;one one;", 11);
        faultAt("valley;one;", 10);
        faultAt("valley;one 0 0;", 13);
        faultAt("valley;one 0x;", 12);
        faultAt("valley;oneX 0;", 10);
        faultAt("Valley;", 0);
        faultAt("valley:", 6);
        faultAt("valley;one 0;{", 13);
        faultAt("valley;one 0;`", 13);
        faultAt("valley;one /", 11);
        faultAt("valley;\t", 7);
        faultAt("valley;\u007f", 7);
        faultAt("valley;\0", 7);
        faultAt("valley;one 0;one 0;one 0;one 0;one 0;one 0; one 0;", 44);
        faultAt("valley;one 0;one 0;one 0;one 0;one 0;one 0;one", 43);
        String eight = "valley;one1;one2;";
        for (int k = 0; k < 8; k++) {
            eight += "wrong0 1 0 5;";
        }
        faultAt(eight + " wrong0 1 0 5;", eight.length() + 1);
        faultAt(eight + "wrong", eight.length());
    }

    private static void readNumbers() {
        Due.part("promise 7, numbers");
        faultAt("valley;one 6;", 11);
        faultAt("valley;one 000;", 11);
        faultAt("valley;one 0123456789012345678901234567890;", 11);
        faultAt("valley 000", 7);
        String two = "valley;one 0;one 1;";
        faultAt(two + "wrong 6 0 1 1;", 25);
        faultAt(two + "wrong 0 2 1 1;", 27);
        faultAt(two + "wrong 0 0 2 1;", 29);
        faultAt(two + "wrong 0 0 0 1;", 29);
        faultAt(two + "wrong 0 1 01 1;", 29);
        faultAt(two + "wrong 0 0 1 0;", 31);
        faultAt(two + "wrong 0 0 1 10;", 31);
        faultAt(two + "ring 0;", 24);
        faultAt(two + "wrong 0 0 1 6;ring 0;", 38);
        faultAt(two + "wrong 0 0 1 5;ring 1;", 38);
        faultAt(two + "wrong 0 0 1 5;ring 0;ring 0;", 45);
        faultAt(two + "days 0;", 24);
        faultAt(two + "days 00;", 24);
        faultAt(two + "days 100;", 24);
        faultAt("valley;wrong 0 0 1 1;", 15);
        faultAt("valley;one 0;wrong 0 0 0 1;", 23);
        reads(two + "wrong 0 0 1 5;ring 0;", 5);
        reads(two + "wrong 0 1 0 3;wrong 0 0 1 5;ring 1;ring 0;", 7);
        faultAt(two + "wrong 0 1 0 3;wrong 0 0 1 5;ring 0;ring 1;", 52);
        reads(two + "wrong 1 1 0 3;days 3;ring 0;", 6);
        faultAt(two + "wrong 1 1 0 3;days 2;ring 0;", 45);
    }

    private static void readTakesThePlace() {
        Due.part("promise 7, a valley read");
        BellForgiven x = full();
        x.image(0);
        x.from(1);
        String text = "valley;one 2;one 5;wrong 2 0 1 3;days 4;wrong 1 1 0 1;ring 1;days 99;";
        write(x, text);
        Due.is("read()", x.read(), 8);
        counts(x, 2, 2, 1, 1, 103, 1, 0, 0, 0, 0, text.length());
        Due.is("undo()", x.undo(), NO);
        fraction(x, 1, 1);
        statuses(x, 0, 2, 0);
        Due.is("about(0, 4)", x.about(0, 4), 99);
        Due.is("about(1, 4)", x.about(1, 4), 0);
        Due.is("about(1, 5)", x.about(1, 5), 1);
        Due.is("about(0, 6)", x.about(0, 6), 8);
        Due.is("of(1, 1)", x.of(1, 1), 1);
        Due.is("of(1, 2)", x.of(1, 2), 15);
        Due.is("read() again", x.read(), 8);
        Due.is("count(4)", x.count(4), 103);
        Due.is("from(0)", x.from(0), 1);
        counts(x, 3, 3, 1, 2, 3, 1, 2, 1, 1, 2, text.length());
        String long1 = "valley;one 0;one 0;";
        for (int n = 0; n < 11; n++) {
            long1 += "days 99;";
        }
        write(x, long1 + "wrong 0 0 1 9;");
        x.read();
        Due.is("about(0, 4)", x.about(0, 4), 0);
        write(x, "valley;one0;one0;wrong0 0 1 9;days99;days99;days99;days99;days99;days99;"
                + "days99;days99;days99;days99;wrong0 0 1 9;days99;");
        Due.is("read()", x.read(), 16);
        Due.is("count(4): at 999 no day goes by", x.count(4), 999);
        Due.is("about(0, 4)", x.about(0, 4), 99);
        Due.is("about(1, 4): nine days were left", x.about(1, 4), 9);
    }

    private static void days() {
        Due.part("promise 8");
        BellForgiven x = rungBy(1, PLAIN);
        x.wrong(OATH, 0, 1, 9);
        for (int n : BEYOND) {
            Due.is("days(" + n + ")", x.days(n), BAD);
        }
        Due.is("days(0)", x.days(0), BAD);
        Due.is("days(61)", x.days(61), BAD);
        statuses(x, 7, 0, 0);
        Due.is("count(9)", x.count(9), 0);
        Due.is("days(1)", x.days(1), 1);
        Due.is("days(60)", x.days(60), 61);
        Due.is("about(0, 4): let off", x.about(0, 4), 0);
        Due.is("about(1, 4)", x.about(1, 4), 61);
        Due.is("days(38)", x.days(38), 99);
        Due.is("days(1)", x.days(1), 100);
        Due.is("about(1, 4)", x.about(1, 4), 99);
        pass(x, 860);
        Due.is("count(4)", x.count(4), 960);
        x.wrong(PLAIN, 1, 0, 9);
        Due.is("days(60): 39 are left", x.days(60), 999);
        Due.is("about(2, 4)", x.about(2, 4), 39);
        Due.is("days(5): none is left", x.days(5), 999);
        Due.is("about(2, 4)", x.about(2, 4), 39);
        Due.is("count(9): one that may be undone, though none went by", x.count(9), 2);
        Due.is("undo()", x.undo(), 999);
        Due.is("undo()", x.undo(), 960);
        Due.is("about(2, 4)", x.about(2, 4), 0);
    }

    private static void rings() {
        Due.part("promise 9");
        BellForgiven x = people(PLAIN, MILD);
        for (int k : BEYOND) {
            Due.is("rings(" + k + ")", x.rings(k), BAD);
        }
        Due.is("rings(0)", x.rings(0), BAD);
        x.wrong(PLAIN, 0, 1, 5);
        x.wrong(PLAIN, 0, 1, 6);
        x.wrong(PLAIN, 1, 0, 3);
        x.wrong(PLAIN, 0, 1, 4);
        Due.is("rings(1): it weighs 6, she lets off 5", x.rings(1), NO);
        Due.is("rings(2): it weighs 3, he lets off 2", x.rings(2), NO);
        Due.is("rings(0)", x.rings(0), 1);
        Due.is("rings(0) again", x.rings(0), NO);
        Due.is("rings(2)", x.rings(2), 1);
        Due.is("rings(1)", x.rings(1), 2);
        Due.is("rings(3)", x.rings(3), 3);
        statuses(x, 6, 3, 0);
        counts(x, 2, 4, 4, 0, 0, 4, 0, 0, 0, 4);
        x = people(PLAIN, HARD);
        x.wrong(APPLE, 0, 1, 2);
        x.days(2);
        Due.is("rings(0): tomorrow it could be", x.rings(0), NO);
        Due.is("peal(): tomorrow it could be", x.peal(), 0);
        Due.is("few(0, -1): tomorrow it could be", x.few(0, -1), -6);
        Due.is("hush(0): not in the peal, though tomorrow", x.hush(0), 0);
        x.days(1);
        Due.is("rings(0)", x.rings(0), 1);
    }

    private static void undo() {
        Due.part("promise 10");
        BellForgiven x = people(PLAIN, MILD);
        x.wrong(PLAIN, 0, 1, 5);
        x.wrong(APPLE, 0, 1, 9);
        Due.is("undo()", x.undo(), NO);
        x.days(4);
        x.rings(0);
        x.days(8);
        x.seen(0, 1, 2, 1);
        Due.is("about(1, 4)", x.about(1, 4), 12);
        Due.is("undo() of days", x.undo(), 4);
        Due.is("about(1, 4)", x.about(1, 4), 4);
        Due.is("about(0, 4)", x.about(0, 4), 4);
        Due.is("about(0, 5)", x.about(0, 5), 1);
        Due.is("undo() of a stroke", x.undo(), 4);
        Due.is("about(0, 5)", x.about(0, 5), 0);
        Due.is("of(0, 1)", x.of(0, 1), 0);
        Due.is("undo() of days", x.undo(), 0);
        Due.is("about(0, 4)", x.about(0, 4), 0);
        Due.is("undo()", x.undo(), NO);
        Due.is("count(6): what was seen stays", x.count(6), 1);
        for (int n = 1; n <= 10; n++) {
            x.days(n);
            Due.is("count(9)", x.count(9), Math.min(8, n));
        }
        for (int n = 10; n > 2; n--) {
            Due.is("undo()", x.undo(), n * (n - 1) / 2);
            Due.is("about(0, 4)", x.about(0, 4), n * (n - 1) / 2);
        }
        Due.is("undo(): 8 at most", x.undo(), NO);
        Due.is("count(4)", x.count(4), 3);
        x.days(1);
        x.wrong(9, 0, 1, 1);
        x.one(9);
        Due.is("count(9): refused ones end nothing", x.count(9), 1);
        x.wrong(PLAIN, 0, 1, 1);
        Due.is("undo() behind a wrong", x.undo(), NO);
        x.days(1);
        x.one(PLAIN);
        Due.is("undo() behind one", x.undo(), NO);
        statuses(x, 2, 5, 0);
    }

    private static void ofPeople() {
        Due.part("promise 11");
        BellForgiven x = people(GRUDGE, MILD, HARD);
        x.wrong(PLAIN, 1, 0, 1);
        x.wrong(PLAIN, 1, 0, 9);
        x.wrong(PLAIN, 2, 1, 5);
        for (int bad : BEYOND) {
            Due.is("of(" + bad + ", 0)", x.of(bad, 0), BAD);
            Due.is("of(0, " + bad + ")", x.of(0, bad), BAD);
        }
        Due.is("of(3, 0)", x.of(3, 0), BAD);
        Due.is("of(0, 4)", x.of(0, 4), BAD);
        statuses(x, 12, 0, 0);
        Due.is("of(0, 0)", x.of(0, 0), GRUDGE);
        Due.is("of(2, 0)", x.of(2, 0), HARD);
        Due.is("of(0, 3)", x.of(0, 3), 0);
        Due.is("of(1, 3)", x.of(1, 3), 1);
        Due.is("of(2, 3)", x.of(2, 3), 1);
        x.rings(0);
        x.rings(2);
        Due.is("of(1, 1)", x.of(1, 1), 1);
        Due.is("of(1, 3): one of two let off", x.of(1, 3), 1);
        Due.is("of(2, 3): all let off", x.of(2, 3), 0);
    }

    private static void mercies() {
        Due.part("promise 11, what the kinds let off");
        int[][] byRung = {{2, 3, 4, 5, 6, 7}, {5, 6, 7, 8, 9, 10}, {1, 1, 2, 2, 3, 3},
                {30, 30, 30, 30, 30, 30}, {1, 1, 3, 3, 4, 4}, {5, 6, 7, 8, 9, 10}};
        for (int kind = 0; kind < 6; kind++) {
            for (int r = 0; r < 6; r++) {
                BellForgiven x = rungBy(r, kind);
                Due.is("of(0, 2) of kind " + kind + ", rung by " + r, x.of(0, 2), byRung[kind][r]);
                x.days(1);
                int want = kind == EASTER ? byRung[HARD][r] : byRung[kind][r];
                Due.is("of(0, 2) a day later, kind " + kind + ", rung by " + r, x.of(0, 2), want);
            }
        }
        int[] at = {0, 9, 10, 29, 30, 31, 60, 89, 90, 99, 100, 119, 120};
        int[] old = {6, 6, 7, 8, 9, 9, 12, 14, 15, 15, 15, 15, 15};
        int[] easter = {30, 1, 1, 1, 30, 1, 30, 1, 30, 1, 1, 1, 30};
        for (int n = 0; n < at.length; n++) {
            BellForgiven x = rungBy(1, OLD);
            pass(x, at[n]);
            Due.is("of(0, 2) of an old one on day " + at[n], x.of(0, 2), old[n]);
            x = rungBy(1, EASTER);
            pass(x, at[n]);
            Due.is("of(0, 2) of an Easter one on day " + at[n], x.of(0, 2), easter[n]);
        }
    }

    private static void about() {
        Due.part("promise 12");
        BellForgiven x = people(PLAIN, MILD);
        x.wrong(OATH, 0, 1, 3);
        x.wrong(DEATH, 1, 0, 7);
        for (int bad : BEYOND) {
            Due.is("about(" + bad + ", 0)", x.about(bad, 0), BAD);
            Due.is("about(0, " + bad + ")", x.about(0, bad), BAD);
        }
        Due.is("about(2, 0)", x.about(2, 0), BAD);
        Due.is("about(0, 7)", x.about(0, 7), BAD);
        statuses(x, 12, 0, 0);
        x.days(5);
        x.rings(0);
        x.days(5);
        int[] first = {OATH, 0, 1, 3, 5, 1, 4};
        int[] second = {DEATH, 1, 0, 7, 10, 0, 18};
        for (int what = 0; what < 7; what++) {
            Due.is("about(0, " + what + ")", x.about(0, what), first[what]);
            Due.is("about(1, " + what + ")", x.about(1, what), second[what]);
        }
    }

    private static void weights() {
        Due.part("promise 12, what the kinds weigh");
        int[] at = {0, 1, 2, 3, 4, 5, 6, 7, 8, 9, 14, 15, 18, 21, 24, 25, 27, 30, 99};
        int[][] five = {
            {5, 5, 5, 5, 5, 5, 5, 5, 5, 5, 5, 5, 5, 5, 5, 5, 5, 5, 5},
            {5, 5, 5, 4, 4, 4, 3, 3, 3, 2, 1, 0, 0, 0, 0, 0, 0, 0, 0},
            {5, 5, 5, 5, 5, 6, 6, 6, 6, 6, 7, 8, 8, 9, 9, 10, 10, 10, 10},
            {5, 5, 5, 4, 4, 4, 3, 3, 3, 2, 2, 2, 2, 2, 2, 2, 2, 2, 2},
            {10, 10, 10, 10, 10, 12, 12, 12, 12, 12, 14, 16, 16, 18, 18, 20, 20, 20, 20},
            {5, 5, 5, 4, 4, 4, 3, 0, 3, 2, 0, 0, 0, 0, 0, 0, 0, 0, 0}};
        for (int n = 0; n < at.length; n++) {
            BellForgiven x = people(PLAIN, PLAIN);
            for (int kind = 0; kind < 6; kind++) {
                x.wrong(kind, 0, 1, 5);
            }
            x.wrong(LATE, 0, 1, 1);
            x.wrong(WORD, 0, 1, 9);
            pass(x, at[n]);
            for (int kind = 0; kind < 6; kind++) {
                Due.is("about(" + kind + ", 6) " + at[n] + " days old", x.about(kind, 6),
                        five[kind][n]);
            }
            Due.is("about(6, 6): 2 at least", x.about(6, 6), 2);
            int word = at[n] > 0 && at[n] % 7 == 0 ? 0 : Math.max(0, 9 - at[n] / 3);
            Due.is("about(7, 6) " + at[n] + " days old", x.about(7, 6), word);
        }
    }

    private static void may() {
        Due.part("promise 13");
        BellForgiven x = people(PLAIN, MILD, EASTER);
        Due.is("may()", x.may(), 0);
        x.wrong(PLAIN, 0, 1, 5);
        x.wrong(PLAIN, 0, 1, 6);
        x.wrong(PLAIN, 1, 0, 2);
        x.wrong(PLAIN, 1, 0, 3);
        x.wrong(DEATH, 1, 2, 9);
        Due.is("may()", x.may(), 0b10101);
        x.rings(2);
        Due.is("may(): let off, and she lets off more", x.may(), 0b10011);
        x.days(1);
        Due.is("may(): no Easter", x.may(), 0b00011);
        x.undo();
        x.undo();
        Due.is("may()", x.may(), 0b10101);
    }

    private static void peal() {
        Due.part("promise 14");
        BellForgiven x = people(PLAIN, MILD, HARD);
        Due.is("peal()", x.peal(), 0);
        x.wrong(PLAIN, 1, 0, 4);
        x.wrong(PLAIN, 0, 1, 7);
        x.wrong(PLAIN, 0, 1, 5);
        x.wrong(PLAIN, 1, 0, 3);
        x.wrong(PLAIN, 2, 0, 5);
        x.wrong(PLAIN, 0, 2, 2);
        // 2 first, then 3 (0 lets off 3), then 1 is still too much for 1: 6; nothing comes of it.
        Due.is("peal()", x.peal(), 0b001100);
        x.wrong(PLAIN, 0, 1, 1);
        // With 6 as well: 0 lets off 4, so 0; 1 lets off 7, so 1; 0 lets off 5, so 4.
        Due.is("peal()", x.peal(), 0b1011111);
        counts(x, 3, 7, 0, 3, 0, 0);
        x.rings(2);
        x.rings(6);
        Due.is("peal(): not those let off already", x.peal(), 0b0011011);
    }

    private static void when() {
        Due.part("promise 15");
        BellForgiven x = people(HARD, EASTER, OLD, MILD);
        for (int k : BEYOND) {
            Due.is("when(" + k + ")", x.when(k), BAD);
        }
        Due.is("when(0)", x.when(0), BAD);
        x.wrong(APPLE, 1, 0, 9);
        x.wrong(PLAIN, 0, 1, 9);
        x.wrong(WORD, 1, 0, 9);
        x.wrong(PLAIN, 1, 0, 2);
        x.wrong(PLAIN, 1, 2, 7);
        x.wrong(OATH, 0, 3, 5);
        Due.is("when(0): 24 days less 8", x.when(0), 24);
        Due.is("when(1): Easter is today", x.when(1), 0);
        Due.is("when(2): a word on its seventh day", x.when(2), 7);
        Due.is("when(3)", x.when(3), NONE);
        Due.is("when(4): on day 20", x.when(4), 20);
        Due.is("when(5)", x.when(5), 0);
        x.days(1);
        Due.is("when(0)", x.when(0), 23);
        Due.is("when(1): Easter is on day 30", x.when(1), 29);
        x.rings(5);
        Due.is("when(5): let off", x.when(5), NONE);
        statuses(x, 6, 0, 0);
        x = people(OLD, PLAIN);
        x.days(29);
        x.wrong(OATH, 1, 0, 9);
        Due.is("when(0): on day 90, in 61 days", x.when(0), NONE);
        x.days(1);
        Due.is("when(0): on day 90, in 60 days", x.when(0), 60);
        x = people(EASTER, PLAIN);
        x.wrong(PLAIN, 1, 0, 9);
        pass(x, 1020);
        Due.is("when(0): on day 1020", x.when(0), 21);
        Due.is("count(4)", x.count(4), 999);
    }

    private static void few() {
        Due.part("promise 16");
        BellForgiven x = people(PLAIN, MILD);
        for (int bad : BEYOND) {
            Due.is("few(" + bad + ", -1)", x.few(bad, -1), -10);
        }
        Due.is("few(0, -1)", x.few(0, -1), -10);
        x.wrong(PLAIN, 1, 0, 4);
        x.wrong(PLAIN, 0, 1, 6);
        x.wrong(PLAIN, 0, 1, 5);
        x.wrong(PLAIN, 0, 1, 1);
        x.wrong(PLAIN, 1, 0, 9);
        Due.is("few(0, -2)", x.few(0, -2), -10);
        Due.is("few(4, -2)", x.few(4, -2), -10);
        Due.is("few(0, MIN)", x.few(0, MIN_VALUE), -10);
        Due.is("status(0)", x.status(0), 9);
        Due.is("few(2, -1)", x.few(2, -1), 1);
        Due.is("few(2, 0)", x.few(2, 0), 2);
        Due.is("few(2, 1)", x.few(2, 1), -5);
        Due.is("few(0, -1): behind 2 and 3", x.few(0, -1), 3);
        Due.is("few(0, 0)", x.few(0, 0), 2);
        Due.is("few(0, 1)", x.few(0, 1), 3);
        Due.is("few(0, 2)", x.few(0, 2), 0);
        Due.is("few(0, 3)", x.few(0, 3), -5);
        Due.is("few(0, MAX)", x.few(0, MAX_VALUE), -5);
        Due.is("few(1, -1): behind 2, 3, 0", x.few(1, -1), 4);
        int[] row = {2, 3, 0, 1};
        for (int n = 0; n < 4; n++) {
            Due.is("few(1, " + n + ")", x.few(1, n), row[n]);
        }
        Due.is("few(4, -1): he lets off 5 at the most", x.few(4, -1), -6);
        Due.is("few(4, 0)", x.few(4, 0), -6);
        Due.is("few(4, MAX)", x.few(4, MAX_VALUE), -6);
        statuses(x, 9, 0, 0);
        x.rings(2);
        Due.is("few(2, -1): let off already", x.few(2, -1), 0);
        Due.is("few(2, 0)", x.few(2, 0), -5);
        Due.is("few(0, -1)", x.few(0, -1), 2);
        counts(x, 2, 5, 1, 2, 0, 1);
    }

    private static void hush() {
        Due.part("promise 17");
        BellForgiven x = people(PLAIN, MILD);
        for (int k : BEYOND) {
            Due.is("hush(" + k + ")", x.hush(k), BAD);
        }
        Due.is("hush(0)", x.hush(0), BAD);
        statuses(x, 6, 0, 0);
        x.wrong(PLAIN, 1, 0, 3);
        x.wrong(PLAIN, 0, 1, 5);
        x.wrong(PLAIN, 0, 1, 1);
        x.wrong(PLAIN, 1, 0, 9);
        Due.is("hush(0): both of them", x.hush(0), 0b0110);
        Due.is("hush(1): it may be let off", x.hush(1), NONE);
        Due.is("hush(3): not in the peal", x.hush(3), 0);
        x.wrong(PLAIN, 1, 0, 4);
        Due.is("hush(4): two strokes are needed; the first of them", x.hush(4), 0b00010);
        x.wrong(PLAIN, 0, 1, 2);
        Due.is("hush(0): three of them", x.hush(0), 0b100110);
        Due.is("hush(4): two of three", x.hush(4), 0b000110);
        x.rings(1);
        Due.is("hush(1): let off already", x.hush(1), 0);
        Due.is("hush(0): it may be now", x.hush(0), NONE);
        Due.is("hush(4): the other two", x.hush(4), 0b100100);
    }

    private static void round() {
        Due.part("promise 18");
        BellForgiven x = people(OLD, OLD, OLD, OLD, OLD, OLD);
        for (int i : BEYOND) {
            Due.is("round(" + i + ")", x.round(i), BAD);
        }
        Due.is("round(6)", x.round(6), BAD);
        statuses(x, 6, 0, 0);
        Due.is("round(0)", x.round(0), NONE);
        for (int i = 0; i < 6; i++) {
            x.wrong(PLAIN, i, (i + 1) % 6, 1);
        }
        for (int i = 0; i < 6; i++) {
            Due.is("round(" + i + ")", x.round(i), 6);
        }
        x.wrong(PLAIN, 2, 0, 1);
        x.wrong(PLAIN, 4, 3, 1);
        int[] want = {3, 3, 3, 2, 2, 6};
        for (int i = 0; i < 6; i++) {
            Due.is("round(" + i + ")", x.round(i), want[i]);
        }
        x.rings(6);
        Due.is("round(0)", x.round(0), 6);
        x.rings(0);
        Due.is("round(0): no ring without it", x.round(0), NONE);
        Due.is("round(3)", x.round(3), 2);
    }

    private static void seen() {
        Due.part("promise 19");
        BellForgiven x = people(PLAIN, MILD);
        x.wrong(PLAIN, 0, 1, 5);
        for (int bad : BEYOND) {
            Due.is("seen k " + bad, x.seen(bad, 0, 0, 0), BAD);
            Due.is("seen d " + bad, x.seen(0, bad, 0, 0), BAD);
            Due.is("seen l " + bad, x.seen(0, 0, bad, 0), BAD);
            Due.is("seen off " + bad, x.seen(0, 0, 0, bad), BAD);
        }
        Due.is("seen(1, 0, 0, 0)", x.seen(1, 0, 0, 0), BAD);
        Due.is("seen(0, 100, 0, 0)", x.seen(0, 100, 0, 0), BAD);
        Due.is("seen(0, 0, 41, 0)", x.seen(0, 0, 41, 0), BAD);
        Due.is("seen(0, 0, 0, 2)", x.seen(0, 0, 0, 2), BAD);
        Due.is("count(6)", x.count(6), 0);
        Due.is("seen(0, 0, 0, 0)", x.seen(0, 0, 0, 0), 1);
        Due.is("seen(0, 99, 40, 1)", x.seen(0, 99, 40, 1), 2);
        for (int n = 3; n <= 5; n++) {
            Due.is("seen(0, 1, 1, 0)", x.seen(0, 1, 1, 0), n);
        }
        Due.is("a 6th", x.seen(0, 1, 1, 0), FULL);
        Due.is("a 6th that is none", x.seen(0, 1, 1, 2), BAD);
        statuses(x, 25, 0, 1);
        Due.is("count(6)", x.count(6), 5);
    }

    private static void grave() {
        Due.part("promise 20");
        BellForgiven x = people(PLAIN, MILD);
        x.wrong(APPLE, 0, 1, 5);
        x.wrong(DEATH, 0, 1, 5);
        for (int bad : BEYOND) {
            Due.is("grave(" + bad + ", 0)", x.grave(bad, 0), BAD);
            Due.is("grave(0, " + bad + ")", x.grave(0, bad), BAD);
        }
        Due.is("grave(2, 0)", x.grave(2, 0), BAD);
        Due.is("grave(0, 3)", x.grave(0, 3), BAD);
        statuses(x, 12, 0, 0);
        graves(x, 0, 9, 1, 9);
        x.seen(0, 6, 4, 1);
        graves(x, 0, 6, 1, 6);
        graves(x, 1, 9, 1, 9);
        x.seen(0, 0, 3, 0);
        graves(x, 0, 3, 4, 6);
        x.seen(1, 5, 12, 0);
        graves(x, 1, 4, 6, 9);
        graves(x, 0, 3, 4, 6);
        x.seen(1, 0, 12, 1);
        graves(x, 1, 1, 6, 6);
        x.seen(1, 0, 11, 1);
        graves(x, 1, 0, NONE, NONE);
        graves(x, 0, 3, 4, 6);
        statuses(x, 12, 0, 0);
    }

    private static void graves(BellForgiven x, int k, int many, int least, int greatest) {
        Due.is("grave(" + k + ", 0)", x.grave(k, 0), many);
        Due.is("grave(" + k + ", 1)", x.grave(k, 1), least);
        Due.is("grave(" + k + ", 2)", x.grave(k, 2), greatest);
    }

    private static void tell() {
        Due.part("promise 21");
        BellForgiven x = people(PLAIN, MILD);
        for (int k : BEYOND) {
            Due.is("tell(" + k + ")", x.tell(k), BAD);
        }
        Due.is("tell(0)", x.tell(0), BAD);
        statuses(x, 6, 0, 0);
        x.wrong(PLAIN, 0, 1, 5);
        x.wrong(DEATH, 0, 1, 5);
        x.wrong(LATE, 0, 1, 5);
        Due.is("tell(0): four of nine", x.tell(0), 4);
        Due.is("tell(1): four of nine, twice as heavy", x.tell(1), 8);
        x.seen(0, 0, 6, 0);
        Due.is("tell(0): of 7, 8, 9", x.tell(0), 7);
        x.seen(0, 0, 8, 1);
        Due.is("tell(0): of 7, 8", x.tell(0), 7);
        x.seen(0, 0, 7, 0);
        Due.is("tell(0): of 8 alone", x.tell(0), 0);
        x.seen(0, 0, 7, 1);
        Due.is("tell(0): no gravity", x.tell(0), NONE);
        x.forget(0);
        x.seen(1, 0, 10, 0);
        Due.is("tell(1): of 6 to 9", x.tell(1), 14);
        x.seen(2, 0, 2, 1);
        Due.is("tell(2): of 1 and 2, always 2", x.tell(2), 0);
        x.forget(0);
        x.seen(1, 0, 16, 0);
        Due.is("tell(1): of 9 alone", x.tell(1), 0);
        x.forget(0);
        x.seen(1, 30, 20, 0);
        x.seen(1, 30, 24, 1);
        // 6 and 7 twice: 12 and 14.
        Due.is("tell(1): of 6 and 7", x.tell(1), 12);
        x = people(PLAIN, MILD);
        x.wrong(LATE, 0, 1, 5);
        x.seen(0, 0, 3, 1);
        // 1, 2 and 3: three days later all weigh 2, so only 3 on the first days can be told.
        Due.is("tell(0): of 1, 2, 3", x.tell(0), 2);
        x.seen(0, 3, 0, 0);
        Due.is("tell(0): as ahead of it", x.tell(0), 2);
        x = people(PLAIN, MILD);
        x.wrong(DEATH, 0, 1, 5);
        x.seen(0, 0, 14, 0);
        x.seen(0, 0, 18, 1);
        Due.is("tell(0): of 8 and 9", x.tell(0), 16);
    }

    private static void note() {
        Due.part("promise 22");
        BellForgiven x = people(PLAIN, MILD);
        x.wrong(PLAIN, 0, 1, 5);
        for (int bad : BEYOND) {
            Due.is("note k " + bad, x.note(bad, 1, 0, 0), BAD);
            Due.is("note g " + bad, x.note(0, bad, 0, 0), BAD);
            Due.is("note d " + bad, x.note(0, 1, bad, 0), BAD);
            Due.is("note x " + bad, x.note(0, 1, 0, bad), BAD);
        }
        Due.is("note(1, 1, 0, 0)", x.note(1, 1, 0, 0), BAD);
        Due.is("note(0, 0, 0, 0)", x.note(0, 0, 0, 0), BAD);
        Due.is("note(0, 10, 0, 0)", x.note(0, 10, 0, 0), BAD);
        Due.is("note(0, 1, 100, 0)", x.note(0, 1, 100, 0), BAD);
        Due.is("note(0, 1, 0, 41)", x.note(0, 1, 0, 41), BAD);
        Due.is("note(0, 1, 0, 0)", x.note(0, 1, 0, 0), 1);
        Due.is("note(0, 9, 99, 40)", x.note(0, 9, 99, 40), 2);
        for (int n = 3; n <= 6; n++) {
            Due.is("note(0, 2, 2, 2)", x.note(0, 2, 2, 2), n);
        }
        Due.is("a 7th", x.note(0, 2, 2, 2), FULL);
        Due.is("a 7th that is none", x.note(0, 0, 2, 2), BAD);
        statuses(x, 26, 0, 1);
        Due.is("count(7)", x.count(7), 6);
    }

    private static void mark() {
        Due.part("promise 23");
        BellForgiven x = people(PLAIN);
        for (int bad : BEYOND) {
            Due.is("mark i " + bad, x.mark(bad, 0, 0, 0), BAD);
            Due.is("mark r " + bad, x.mark(0, bad, 0, 0), BAD);
            Due.is("mark t " + bad, x.mark(0, 0, bad, 0), BAD);
            Due.is("mark x " + bad, x.mark(0, 0, 0, bad), BAD);
        }
        Due.is("mark(1, 0, 0, 0)", x.mark(1, 0, 0, 0), BAD);
        Due.is("mark(0, 10, 0, 0)", x.mark(0, 10, 0, 0), BAD);
        Due.is("mark(0, 0, 100, 0)", x.mark(0, 0, 100, 0), BAD);
        Due.is("mark(0, 0, 0, 61)", x.mark(0, 0, 0, 61), BAD);
        Due.is("mark(0, 0, 0, 0)", x.mark(0, 0, 0, 0), 1);
        Due.is("mark(0, 9, 99, 60)", x.mark(0, 9, 99, 60), 2);
        for (int n = 3; n <= 6; n++) {
            Due.is("mark(0, 2, 2, 2)", x.mark(0, 2, 2, 2), n);
        }
        Due.is("a 7th", x.mark(0, 2, 2, 2), FULL);
        Due.is("a 7th that is none", x.mark(1, 2, 2, 2), BAD);
        statuses(x, 25, 0, 1);
        Due.is("count(8)", x.count(8), 6);
    }

    private static void forget() {
        Due.part("promise 24");
        BellForgiven x = people(PLAIN, MILD);
        x.wrong(PLAIN, 0, 1, 5);
        for (int n = 0; n < 3; n++) {
            x.seen(0, 0, 4, 0);
            x.note(0, 1, 0, 2);
        }
        x.note(0, 1, 0, 2);
        x.mark(0, 0, 0, 1);
        for (int bad : BEYOND) {
            Due.is("forget(" + bad + ")", x.forget(bad), BAD);
        }
        Due.is("forget(3)", x.forget(3), BAD);
        statuses(x, 6, 0, 0);
        counts(x, 2, 1, 0, 1, 0, 0, 3, 4, 1);
        Due.is("forget(0)", x.forget(0), 3);
        counts(x, 2, 1, 0, 1, 0, 0, 0, 4, 1);
        Due.is("grave(0, 0)", x.grave(0, 0), 9);
        Due.is("forget(1)", x.forget(1), 4);
        Due.is("is(0)", x.is(0), 63);
        Due.is("forget(2)", x.forget(2), 1);
        Due.is("kinds(0)", x.kinds(0), 63);
        counts(x, 2, 1, 0, 1, 0, 0, 0, 0, 0);
        for (int what = 0; what < 3; what++) {
            Due.is("forget(" + what + ")", x.forget(what), 0);
        }
    }

    private static void is() {
        Due.part("promise 25");
        BellForgiven x = people(PLAIN, MILD);
        for (int k : BEYOND) {
            Due.is("is(" + k + ")", x.is(k), BAD);
        }
        Due.is("is(0)", x.is(0), BAD);
        statuses(x, 6, 0, 0);
        x.wrong(PLAIN, 0, 1, 5);
        x.wrong(WORD, 0, 1, 5);
        Due.is("is(0)", x.is(0), 63);
        x.note(0, 5, 14, 1);
        Due.is("is(0): apple alone", x.is(0), 1 << APPLE);
        Due.is("is(1): of another nothing", x.is(1), 63);
        x.note(1, 5, 3, 4);
        Due.is("is(1): apple, late, word", x.is(1), 1 << APPLE | 1 << LATE | 1 << WORD);
        x.note(1, 2, 9, 2);
        Due.is("is(1): late", x.is(1), 1 << LATE);
        x.note(1, 2, 9, 0);
        Due.is("is(1): none", x.is(1), 0);
        x.forget(1);
        x.note(0, 3, 7, 0);
        Due.is("is(0): word", x.is(0), 1 << WORD);
        x.forget(1);
        x.note(0, 4, 12, 6);
        Due.is("is(0): oath", x.is(0), 1 << OATH);
        x.forget(1);
        x.note(0, 4, 12, 12);
        Due.is("is(0): death", x.is(0), 1 << DEATH);
        x.forget(1);
        x.note(0, 4, 12, 4);
        Due.is("is(0): plain", x.is(0), 1 << PLAIN);
    }

    private static void look() {
        Due.part("promise 26");
        BellForgiven x = people(PLAIN, MILD);
        for (int k : BEYOND) {
            Due.is("look(" + k + ")", x.look(k), BAD);
        }
        Due.is("look(0)", x.look(0), BAD);
        statuses(x, 6, 0, 0);
        x.wrong(PLAIN, 0, 1, 9);
        x.wrong(PLAIN, 0, 1, 1);
        // On day 7 of 9: 9, 7, 10, 7, 20, 0: two alike; so few are never before.
        Due.is("look(0)", x.look(0), 7);
        // Of 1, on day 3: 1, 0, 1, 2, 2, 0: two alike.
        Due.is("look(1)", x.look(1), 3);
        x.note(0, 9, 0, 9);
        x.note(0, 9, 3, 8);
        // Apple, late, word: on day 7 two and one; on day 24 apple 1, late 2, word 1;
        // on day 21 apple 2, late 2, word 0; on day 28 apple 0, late 2, word 0.
        Due.is("look(0)", x.look(0), 7);
        x.note(0, 9, 7, 7);
        Due.is("look(0): apple, late apart from day 24 on", x.look(0), 24);
        x.note(0, 9, 30, 0);
        Due.is("look(0): apple alone", x.look(0), 0);
        x.note(0, 9, 30, 1);
        Due.is("look(0): none", x.look(0), NONE);
    }

    private static void kinds() {
        Due.part("promise 27");
        BellForgiven x = people(PLAIN, MILD);
        for (int i : BEYOND) {
            Due.is("kinds(" + i + ")", x.kinds(i), BAD);
        }
        Due.is("kinds(2)", x.kinds(2), BAD);
        statuses(x, 6, 0, 0);
        Due.is("kinds(0)", x.kinds(0), 63);
        x.mark(0, 1, 1, 1);
        Due.is("kinds(0): hard, Easter, grudge", x.kinds(0), 1 << HARD | 1 << EASTER | 1 << GRUDGE);
        Due.is("kinds(1): of another nothing", x.kinds(1), 63);
        x.mark(0, 2, 30, 2);
        Due.is("kinds(0): hard", x.kinds(0), 1 << HARD);
        x.mark(0, 2, 30, 3);
        Due.is("kinds(0): none", x.kinds(0), 0);
        x.mark(1, 9, 99, 23);
        Due.is("kinds(1): old", x.kinds(1), 1 << OLD);
        x.forget(2);
        x.mark(1, 9, 99, 14);
        Due.is("kinds(1): mild", x.kinds(1), 1 << MILD);
        x.mark(0, 9, 99, 11);
        Due.is("kinds(0): plain", x.kinds(0), 1 << PLAIN);
        x.forget(2);
        x.mark(0, 0, 60, 30);
        Due.is("kinds(0): Easter", x.kinds(0), 1 << EASTER);
        x.forget(2);
        x.mark(0, 9, 1, 6);
        Due.is("kinds(0): grudge", x.kinds(0), 1 << GRUDGE);
    }

    private static void ask() {
        Due.part("promise 28");
        BellForgiven x = people(PLAIN, MILD);
        for (int i : BEYOND) {
            Due.is("ask(" + i + ")", x.ask(i), BAD);
        }
        Due.is("ask(2)", x.ask(2), BAD);
        statuses(x, 6, 0, 0);
        Due.is("ask(0): all apart", x.ask(0), 230);
        x.mark(0, 1, 1, 1);
        Due.is("ask(0): hard, Easter, grudge", x.ask(0), 200);
        x.mark(0, 2, 1, 2);
        Due.is("ask(0): hard, Easter", x.ask(0), 0);
        x.mark(0, 1, 1, 9);
        Due.is("ask(0): none", x.ask(0), NONE);
        Due.is("ask(1)", x.ask(1), 230);
        x.mark(1, 1, 1, 6);
        Due.is("ask(1): mild, old", x.ask(1), 10);
    }

    private static void first() {
        Due.part("promise 29");
        BellForgiven x = people(PLAIN, MILD, HARD);
        for (int bad : BEYOND) {
            Due.is("first(" + bad + ", 0)", x.first(bad, 0), BAD);
            Due.is("first(0, " + bad + ")", x.first(0, bad), BAD);
        }
        Due.is("first(3, 0)", x.first(3, 0), BAD);
        Due.is("first(0, 3)", x.first(0, 3), BAD);
        Due.is("first(1, 1)", x.first(1, 1), BAD);
        statuses(x, 13, 0, 0);
        Due.is("first(0, 1): b alone", x.first(0, 1), 0b0100);
        Due.is("first(1, 0): a alone", x.first(1, 0), 0b0010);
        Due.is("first(0, 2): neither", x.first(0, 2), 0b0001);
        x.wrong(PLAIN, 0, 1, 1);
        x.rings(0);
        Due.is("first(0, 1): both, 3 are let off now", x.first(0, 1), 0b1000);
        Due.is("first(1, 0): both", x.first(1, 0), 0b1000);
        x.undo();
        Due.is("first(0, 1)", x.first(0, 1), 0b0100);
        x = people(EASTER, PLAIN);
        Due.is("first(0, 1): a lets off 30 at Easter", x.first(0, 1), 0b0010);
        Due.is("first(1, 0)", x.first(1, 0), 0b0100);
        x.days(29);
        Due.is("first(0, 1): not now, though tomorrow", x.first(0, 1), 0b0001);
        Due.is("first(1, 0): not now, though tomorrow", x.first(1, 0), 0b0001);
    }

    private static void rust() {
        Due.part("promise 30");
        BellForgiven x = people(PLAIN, MILD);
        x.wrong(PLAIN, 1, 0, 4);
        for (int k = 1; k <= 3; k++) {
            x.wrong(PLAIN, 0, 1, 1);
        }
        x.wrong(PLAIN, 0, 1, 6);
        Due.is("rust(0, 14, 3)", x.rust(0, 14, 3), 1);
        fraction(x, 98, 125);
        for (int bad : BEYOND) {
            Due.is("rust(" + bad + ", 2, 3)", x.rust(bad, 2, 3), BAD);
            Due.is("rust(0, " + bad + ", 3)", x.rust(0, bad, 3), BAD);
            Due.is("rust(0, 2, " + bad + ")", x.rust(0, 2, bad), BAD);
        }
        Due.is("rust(5, 2, 3)", x.rust(5, 2, 3), BAD);
        Due.is("rust(0, 32, 3)", x.rust(0, 32, 3), BAD);
        Due.is("rust(0, 15, 3)", x.rust(0, 15, 3), BAD);
        Due.is("rust(0, 14, 11)", x.rust(0, 14, 11), BAD);
        statuses(x, 19, 0, 0);
        fraction(x, 98, 125);
        rusts(x, 0, 14, 0, 1, 1);
        rusts(x, 0, 14, 10, 0, 1);
        rusts(x, 0, 14, 5, 1, 2);
        rusts(x, 0, 6, 3, 49, 100);
        rusts(x, 0, 2, 3, 0, 1);
        rusts(x, 0, 0, 3, 0, 1);
        rusts(x, 1, 12, 3, 1, 1);
        // 4 comes behind 0, and 1 lets off 6 only if 0 sounded: 0.784 times 0.7; but 0 comes
        // ahead of 1, 2, 3, so that it never can.
        rusts(x, 4, 15, 3, 0, 1);
        x.wrong(PLAIN, 1, 0, 4);
        // Now 5 comes behind them, 4 being told is of no use.
        rusts(x, 5, 30, 3, 98, 125);
        x.wrong(PLAIN, 1, 0, 3);
        x.wrong(PLAIN, 0, 1, 6);
        // 1 sounds or not, then 6 can be: then 7 by 0.7 times 0.7.
        rusts(x, 7, 66, 3, 49, 100);
        rusts(x, 7, 66, 4, 9, 25);
        counts(x, 2, 8, 0, 2, 0, 0, 0, 0, 0, 0);
        x.rings(1);
        rusts(x, 1, 4, 3, 0, 1);
        // 1 has been let off already, so that one of 2 and 3 is enough for 0.
        rusts(x, 0, 14, 3, 91, 100);
        rusts(x, 0, 2, 3, 0, 1);
    }

    private static void rusts(BellForgiven x, int k, int wrongs, int c, int above, int below) {
        Due.is("rust(" + k + ", " + wrongs + ", " + c + ")", x.rust(k, wrongs, c), 1);
        fraction(x, above, below);
    }

    private static void easters() {
        Due.part("promise 31");
        BellForgiven x = people(OLD, OLD, EASTER);
        for (int bad : BEYOND) {
            Due.is("easters(" + bad + ", 1)", x.easters(bad, 1), BAD);
            Due.is("easters(1, " + bad + ")", x.easters(1, bad), BAD);
        }
        Due.is("easters(1000000, 1)", x.easters(1000000, 1), BAD);
        Due.is("easters(1, 61)", x.easters(1, 61), BAD);
        statuses(x, 12, 0, 0);
        Due.is("easters(999999, 60)", x.easters(999999, 60), 0);
        Due.is("easters(0, 0)", x.easters(0, 0), 0);
        for (int k = 0; k < 4; k++) {
            x.wrong(PLAIN, 0, 1, 1);
        }
        // Behind the seed 1 come WRONGS 6, 6, 1, 3, 3, 3, 2, 3, 4, 6.
        int[] four = {0, 0, 0, 1, 2, 2, 2, 3, 3, 3, 3};
        for (int n = 0; n <= 10; n++) {
            Due.is("easters(1, " + n + ")", x.easters(1, n), four[n]);
        }
        for (int k = 4; k < 8; k++) {
            x.wrong(PLAIN, 0, k == 6 ? 2 : 1, 9 - k);
        }
        int[] eight = {0, 1, 1, 2, 3, 3, 3, 4, 4, 5, 5};
        for (int n = 0; n <= 10; n++) {
            Due.is("easters(1, " + n + ")", x.easters(1, n), eight[n]);
        }
        x.rings(0);
        x.days(1);
        // 0 was let off; 6 can only be at Easter now.
        int[] later = {1, 1, 1, 2, 3, 3, 3, 4, 4, 5, 5};
        for (int n = 0; n <= 10; n++) {
            Due.is("easters(1, " + n + ") a day later", x.easters(1, n), later[n]);
        }
        counts(x, 3, 8, 1, 1, 1, 1);
        x.days(20);
        // The tenth of them is on day 30.
        Due.is("easters(1, 9)", x.easters(1, 9), 5);
        Due.is("easters(1, 10)", x.easters(1, 10), 6);
    }

    private static void part() {
        Due.part("promise 32");
        BellForgiven x = people(PLAIN, MILD);
        for (int bad : BEYOND) {
            Due.is("part(" + bad + ")", x.part(bad), BAD);
        }
        Due.is("part(2)", x.part(2), BAD);
        statuses(x, 6, 0, 0);
        fraction(x, 0, 1);
        x.wrong(PLAIN, 1, 0, 3);
        x.wrong(PLAIN, 0, 1, 5);
        x.rust(0, 2, 4);
        fraction(x, 3, 5);
        x.valley();
        fraction(x, 3, 5);
    }

    private static void image() {
        Due.part("promise 33");
        BellForgiven x = full();
        for (int i : BEYOND) {
            Due.is("image(" + i + ")", x.image(i), BAD);
        }
        Due.is("image(2)", x.image(2), BAD);
        statuses(x, 6, 0, 0);
        long before = x.digest();
        Due.is("image(0)", x.image(0), 1);
        Due.is("digest()", x.digest(), before);
        Due.is("from(1)", x.from(1), NO);
        x.days(1);
        x.rings(1);
        x.one(PLAIN);
        Due.is("image(1)", x.image(1), 1);
        Due.is("from(0)", x.from(0), 1);
        Due.is("digest()", x.digest(), before);
        Due.is("from(1)", x.from(1), 1);
        Due.is("count(0)", x.count(0), 4);
        Due.is("image(0): in the place of the one before", x.image(0), 1);
        x.valley();
        x.from(0);
        Due.is("count(0)", x.count(0), 4);
    }

    private static void from() {
        Due.part("promise 34");
        BellForgiven x = full();
        for (int i : BEYOND) {
            Due.is("from(" + i + ")", x.from(i), BAD);
        }
        Due.is("from(2)", x.from(2), BAD);
        Due.is("from(0)", x.from(0), NO);
        statuses(x, 6, 1, 0);
        x.image(0);
        x.undo();
        x.days(9);
        x.wrong(PLAIN, 0, 2, 1);
        x.rings(3);
        x.forget(0);
        x.forget(1);
        x.forget(2);
        x.seen(0, 9, 9, 0);
        x.note(0, 9, 9, 9);
        x.mark(0, 9, 9, 9);
        write(x, "ab");
        x.rust(1, 1, 0);
        fraction(x, 0, 1);
        Due.is("from(0)", x.from(0), 1);
        counts(x, 3, 3, 1, 2, 3, 1, 2, 1, 1, 2, 2);
        fraction(x, 0, 1);
        statuses(x, 6, 1, 0);
        Due.is("grave(1, 2)", x.grave(1, 2), 5);
        Due.is("is(1)", x.is(1), 1 << DEATH);
        Due.is("kinds(2)", x.kinds(2), 1 << PLAIN);
        Due.is("about(0, 5)", x.about(0, 5), 1);
        Due.is("about(1, 4)", x.about(1, 4), 3);
        Due.is("of(0, 1)", x.of(0, 1), 1);
        Due.is("undo(): the stroke", x.undo(), 3);
        Due.is("about(0, 5)", x.about(0, 5), 0);
        Due.is("undo(): the days", x.undo(), 0);
        Due.is("undo()", x.undo(), NO);
        Due.is("from(0) again", x.from(0), 1);
        counts(x, 3, 3, 1, 2, 3, 1, 2, 1, 1, 2, 2);
    }

    private static void status() {
        Due.part("promise 35");
        BellForgiven x = new BellForgiven();
        Due.is("status(3)", x.status(3), -1);
        for (int what : BEYOND) {
            Due.is("status(" + what + ")", x.status(what), -1);
        }
        statuses(x, 6, 0, 0);
        x.few(0, -1);
        x.undo();
        x.from(1);
        for (int n = 0; n < 7; n++) {
            x.one(0);
        }
        statuses(x, 7, 2, 1);
        x.read();
        x.round(0);
        statuses(x, 7, 2, 1);
    }

    private static void count() {
        Due.part("promise 36");
        BellForgiven x = full();
        for (int what : BEYOND) {
            Due.is("count(" + what + ")", x.count(what), BAD);
        }
        Due.is("count(11)", x.count(11), BAD);
        statuses(x, 6, 0, 0);
        counts(x, 3, 3, 1, 2, 3, 1, 2, 1, 1, 2, 1);
    }

    private static void digest() {
        Due.part("promise 37");
        BellForgiven x = new BellForgiven();
        long h = 1693;
        for (int n = 0; n < 12; n++) {
            h = 31 * h;
        }
        Due.is("digest()", x.digest(), 31 * h + 1);
        x = full();
        int[] told = {3, 3, 1, 2, 3, 1, 2, 1, 1, 2, 1,
            PLAIN, 1, MILD, 0, EASTER, 0,
            PLAIN, 0, 1, 5, 3, 1, APPLE, 1, 0, 9, 3, 0, WORD, 2, 1, 4, 3, 0,
            1, 3, 4, 1, 2, 3, 4, 0, 1, 2, 3, 4, 2, 4, 5, 6, 1, 1};
        h = 1693;
        for (int v : told) {
            h = 31 * h + v;
        }
        Due.is("digest()", x.digest(), h);
        x.status(7);
        Due.is("digest(): without what was refused", x.digest(), h);
    }
}
