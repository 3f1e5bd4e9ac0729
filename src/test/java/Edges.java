import java.lang.reflect.InvocationTargetException;
import java.lang.reflect.Method;
import java.lang.reflect.Modifier;
import java.util.ArrayList;
import java.util.Comparator;
import java.util.List;
import java.util.function.Supplier;
import java.util.function.ToLongFunction;
import java.util.stream.LongStream;

/**
 * What the tests of the edges have in common. Each test is a static method named by the promise's
 * number and by the sentence that it looks at, and makes objects of its own.
 */
abstract class Edges {
    static final int NONE = -1, BAD = -2, NO = -3, FULL = -4;
    static final int MIN = Integer.MIN_VALUE, MAX = Integer.MAX_VALUE;
    static final int PLAIN = 0, APPLE = 1, OATH = 2, LATE = 3, DEATH = 4, WORD = 5;
    static final int MILD = 1, HARD = 2, EASTER = 3, GRUDGE = 4, OLD = 5;
    private static final String TEXT = "valley;one 1;one 2;wrong 0 1 0 1;";

    interface Call {
        long on(BellForgiven x, int argument);
    }

    // ---- one test after the other

    /** Runs the tests of c, each on its own, so that one that fails does not hide the others. */
    static void runAll(Class<?> c) {
        List<Method> tests = testsOf(c);
        for (Method test : tests) {
            Due.part(test.getName());
            try {
                test.invoke(null);
            } catch (InvocationTargetException e) {
                e.getCause().printStackTrace(System.out);
                Due.holds("to come to its end", false);
            } catch (IllegalAccessException e) {
                Due.holds("to be called", false);
            }
        }
        System.out.println(tests.size() + " tests of edges");
        Due.end();
    }

    static List<Method> testsOf(Class<?> c) {
        List<Method> tests = new ArrayList<>();
        for (Method m : c.getDeclaredMethods()) {
            if (m.getName().startsWith("promise") && Modifier.isStatic(m.getModifiers())) {
                tests.add(m);
            }
        }
        tests.sort(Comparator.comparing(Method::getName));
        return tests;
    }

    /** The line of the test is told, as a call's own text would only be told twice. */
    static void due(long got, long want) {
        Due.is(got == want ? "" : line(), got, want);
    }

    private static String line() {
        return StackWalker.getInstance().walk(frames -> frames
                .filter(f -> f.getMethodName().startsWith("promise")).findFirst()
                .map(f -> f.getFileName() + ":" + f.getLineNumber()).orElse("a call"));
    }

    // ---- valleys

    static BellForgiven people(int... kinds) {
        BellForgiven x = new BellForgiven();
        for (int kind : kinds) {
            x.one(kind);
        }
        return x;
    }

    /** All that can be told is told, two images unlike each other are kept, much may be undone. */
    static BellForgiven told() {
        return told(TEXT);
    }

    static BellForgiven told(String text) {
        BellForgiven x = people(PLAIN, MILD, HARD, OLD);
        x.wrong(PLAIN, 0, 1, 5);
        x.wrong(APPLE, 1, 0, 3);
        x.wrong(OATH, 2, 3, 4);
        x.wrong(WORD, 3, 2, 9);
        x.wrong(DEATH, 0, 3, 1);
        x.wrong(LATE, 1, 2, 1);
        x.seen(1, 3, 4, 1);
        x.seen(4, 0, 6, 0);
        x.note(1, 5, 3, 4);
        x.note(3, 2, 7, 0);
        x.mark(2, 4, 5, 3);
        x.mark(3, 0, 10, 6);
        x.rust(1, 1, 3);
        x.days(3);
        x.image(0);
        x.rings(0);
        x.days(4);
        x.rings(2);
        x.image(1);
        x.rings(4);
        x.days(1);
        write(x, text);
        return x;
    }

    /** As full as can be: 6 PEOPLE, 8 WRONGS, 5 SEEN, 6 NOTES, 6 MARKS; strokes may be undone. */
    static BellForgiven full() {
        BellForgiven x = people(PLAIN, MILD, HARD, EASTER, GRUDGE, OLD);
        for (int k = 0; k < 8; k++) {
            x.wrong(k % 6, k % 6, (k + 1) % 6, k + 1);
        }
        for (int n = 0; n < 6; n++) {
            x.note(n, 3, n, 3);
            x.mark(n, 1, n, 3);
        }
        for (int n = 0; n < 5; n++) {
            x.seen(n, n, 4, n % 2);
        }
        x.rings(0);
        x.days(2);
        return x;
    }

    /** Eight WRONGS of which each but 7 can only be let off behind the one of the next number. */
    static BellForgiven stairs() {
        BellForgiven x = people(PLAIN, PLAIN);
        for (int k = 0; k < 8; k++) {
            x.wrong(PLAIN, 1 - k % 2, k % 2, 6 - k / 2 - k % 2);
        }
        return x;
    }

    /** One of the kind told is RUNG by n, in letting off what weighs 1. */
    static BellForgiven rungBy(int n, int kind) {
        BellForgiven x = people(kind, OLD);
        for (int k = 0; k < n; k++) {
            x.wrong(PLAIN, 0, 1, 1);
            x.rings(k);
        }
        return x;
    }

    static void pass(BellForgiven x, int n) {
        for (int left = n; left > 0; left -= 60) {
            x.days(Math.min(60, left));
        }
    }

    static void write(BellForgiven x, String text) {
        x.clear();
        for (int n = 0; n < text.length(); n++) {
            x.type(text.charAt(n));
        }
    }

    // ---- what is refused, what is let through, what changes nothing

    static long[] statuses(BellForgiven x) {
        return new long[] {x.status(0), x.status(1), x.status(2)};
    }

    static void statuses(BellForgiven x, int bad, int no, int full) {
        due(x.status(0), bad);
        due(x.status(1), no);
        due(x.status(2), full);
    }

    static void counts(BellForgiven x, int... want) {
        for (int what = 0; what < want.length; what++) {
            due(x.count(what), want[what]);
        }
    }

    static void fraction(BellForgiven x, long above, long below) {
        due(x.part(0), above);
        due(x.part(1), below);
    }

    /** The call answers so, STATUS has one more of the reason, and all else stays as it was. */
    static void refuses(Supplier<BellForgiven> made, ToLongFunction<BellForgiven> call, long answer,
            int reason) {
        BellForgiven x = made.get();
        BellForgiven twin = made.get();
        long[] want = statuses(twin);
        want[BAD - reason]++;
        due(call.applyAsLong(x), answer);
        same(statuses(x), want);
        same(all(x), all(twin));
    }

    static void refuses(Supplier<BellForgiven> made, ToLongFunction<BellForgiven> call, int reason) {
        refuses(made, call, reason, reason);
    }

    /** Whatever the call answers, all is behind it as it was, STATUS too. */
    static void changesNothing(Supplier<BellForgiven> made, ToLongFunction<BellForgiven> call) {
        BellForgiven x = made.get();
        BellForgiven twin = made.get();
        call.applyAsLong(x);
        same(statuses(x), statuses(twin));
        same(all(x), all(twin));
    }

    /** The least and the most are let through, what lies beyond is BAD. */
    static void limits(Supplier<BellForgiven> made, Call call, int least, int most) {
        limits(made, call, least, most, BAD);
    }

    static void limits(Supplier<BellForgiven> made, Call call, int least, int most, int answer) {
        for (int through : new int[] {least, most}) {
            BellForgiven x = made.get();
            long[] want = statuses(x);
            call.on(x, through);
            same(statuses(x), want);
        }
        for (int beyond : new int[] {least - 1, most + 1, least - 64, most + 256, MIN, MAX}) {
            refuses(made, x -> call.on(x, beyond), answer, BAD);
        }
    }

    static void same(long[] got, long[] want) {
        due(got.length, want.length);
        for (int n = 0; n < Math.min(got.length, want.length); n++) {
            if (got[n] != want[n]) {
                due(got[n], want[n]);
                return;
            }
        }
    }

    // ---- all that there is

    /** All that can be asked, then what may be undone, what the images keep, what the text tells. */
    static long[] all(BellForgiven x) {
        LongStream.Builder a = LongStream.builder();
        counted(x, a);
        ofPeople(x, a);
        ofWrongs(x, a);
        for (int seed = 1; seed < 4; seed++) {
            a.add(x.easters(seed, 20));
        }
        undone(x, a);
        for (int i = 0; i < 2; i++) {
            a.add(x.from(i));
            undone(x, a);
        }
        a.add(x.read()).add(x.digest()).add(x.may());
        return a.build().toArray();
    }

    private static void counted(BellForgiven x, LongStream.Builder a) {
        for (int what = 0; what < 11; what++) {
            a.add(x.count(what));
        }
        a.add(x.digest()).add(x.part(0)).add(x.part(1)).add(x.may()).add(x.peal());
    }

    private static void ofPeople(BellForgiven x, LongStream.Builder a) {
        int people = x.count(0);
        for (int i = 0; i < people; i++) {
            for (int what = 0; what < 4; what++) {
                a.add(x.of(i, what));
            }
            a.add(x.round(i)).add(x.kinds(i)).add(x.ask(i));
            for (int other = 0; other < i; other++) {
                a.add(x.first(i, other));
            }
        }
    }

    private static void ofWrongs(BellForgiven x, LongStream.Builder a) {
        int wrongs = x.count(1);
        for (int k = 0; k < wrongs; k++) {
            for (int what = 0; what < 7; what++) {
                a.add(x.about(k, what));
            }
            a.add(x.when(k)).add(x.hush(k)).add(x.few(k, -1)).add(x.few(k, 0));
            for (int what = 0; what < 3; what++) {
                a.add(x.grave(k, what));
            }
            a.add(x.tell(k)).add(x.is(k)).add(x.look(k));
            a.add(x.rust(k, (1 << wrongs) - 1 & ~(1 << k), 3)).add(x.part(0)).add(x.part(1));
        }
    }

    private static void undone(BellForgiven x, LongStream.Builder a) {
        a.add(x.digest()).add(x.may());
        for (int n = 0; n < 10 && x.count(9) > 0; n++) {
            a.add(x.undo()).add(x.digest());
        }
        a.add(x.undo());
    }
}
