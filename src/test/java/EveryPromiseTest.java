import java.lang.reflect.Method;
import java.util.List;

/** Each promise of the document has tests of its edges, each named by the promise's number. */
public final class EveryPromiseTest extends Edges {
    private static final int PROMISES = 37;
    private static final List<Class<?>> CLASSES = List.of(ValleyEdgesTest.class, ReadEdgesTest.class,
            DaysEdgesTest.class, LetOffEdgesTest.class, GuessEdgesTest.class, ThereIsEdgesTest.class);

    private EveryPromiseTest() {
    }

    public static void main(String[] args) {
        int[] tests = new int[PROMISES + 1];
        for (Class<?> c : CLASSES) {
            for (Method test : testsOf(c)) {
                tests[Integer.parseInt(test.getName().substring(7, 9))]++;
            }
        }
        StringBuilder all = new StringBuilder();
        for (int promise = 1; promise <= PROMISES; promise++) {
            all.append(promise).append(": ").append(tests[promise]).append("  ");
            Due.holds("promise " + promise + " has tests of its edges", tests[promise] >= 3);
        }
        Due.holds("no test is of no promise", tests[0] == 0);
        System.out.println(all);
        Due.end();
    }
}
