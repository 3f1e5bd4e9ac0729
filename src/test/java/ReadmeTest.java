import java.io.IOException;
import java.lang.reflect.Field;
import java.lang.reflect.Method;
import java.lang.reflect.Modifier;
import java.nio.file.Files;
import java.nio.file.Path;
import java.util.List;
import java.util.Set;
import java.util.TreeSet;
import java.util.regex.Matcher;
import java.util.regex.Pattern;

/** What README.md tells of the class is so: its example, its constants, its face. */
public final class ReadmeTest {
    private static final Pattern ASKED = Pattern.compile("x\\.(\\w+)\\(([^)]*)\\); *// (-?\\d+):.*");
    private static final Pattern TYPED = Pattern.compile("for \\(char c : \"(.*)\"\\.toCharArray\\(\\)\\)"
            + " x\\.type\\(c\\);");
    private static final Pattern IN_THE_FACE = Pattern.compile("\\| (\\d+) \\| `(\\w+)\\((.*)\\)` \\|.*");
    private static final Pattern PROMISED = Pattern.compile("## Promise (\\d+): .*");
    private static final Pattern SIGNED = Pattern.compile("`(?:\\w+ )?(\\w+)\\((.*)\\)`: .*");

    private ReadmeTest() {
    }

    public static void main(String[] args) throws IOException, ReflectiveOperationException {
        List<String> lines = Files.readAllLines(Path.of("README.md"));
        Due.part("the example");
        example(lines);
        Due.part("the constants");
        constants(lines);
        Due.part("the face");
        face(lines);
        Due.end();
    }

    private static void example(List<String> lines) throws ReflectiveOperationException {
        BellForgiven x = new BellForgiven();
        int asked = 0;
        for (String line : within(lines, "```java")) {
            Matcher typed = TYPED.matcher(line);
            Matcher one = ASKED.matcher(line);
            if (typed.matches()) {
                typed.group(1).chars().forEach(x::type);
            } else if (one.matches()) {
                Due.is(line, answer(x, one.group(1), one.group(2)), Long.parseLong(one.group(3)));
                asked++;
            } else {
                Due.is(line, line.indexOf("BellForgiven x = new BellForgiven();"), 0);
            }
        }
        Due.holds("that calls were made", asked > 10);
    }

    private static List<String> within(List<String> lines, String fence) {
        int start = lines.indexOf(fence) + 1;
        return lines.subList(start, start + lines.subList(start, lines.size()).indexOf("```"));
    }

    private static long answer(BellForgiven x, String name, String told)
            throws ReflectiveOperationException {
        String[] words = told.isEmpty() ? new String[0] : told.split(", ");
        Object[] numbers = new Object[words.length];
        Class<?>[] types = new Class<?>[words.length];
        for (int n = 0; n < words.length; n++) {
            numbers[n] = words[n].equals("BellForgiven.NONE") ? BellForgiven.NONE : Integer.parseInt(words[n]);
            types[n] = int.class;
        }
        return ((Number) BellForgiven.class.getMethod(name, types).invoke(x, numbers)).longValue();
    }

    private static void constants(List<String> lines) throws ReflectiveOperationException {
        for (Field f : BellForgiven.class.getFields()) {
            String row = "| `" + f.getName() + "` | " + f.getInt(null) + " |";
            Due.holds(row, lines.stream().anyMatch(line -> line.startsWith(row)));
        }
    }

    /** Each promise of the document has a row with its number and its call, and no other row stands. */
    private static void face(List<String> lines) throws IOException {
        Set<String> rows = new TreeSet<>();
        for (String line : lines) {
            Matcher row = IN_THE_FACE.matcher(line);
            if (row.matches()) {
                rows.add(row.group(1) + " " + row.group(2) + "(" + row.group(3) + ")");
            }
        }
        Set<String> due = new TreeSet<>();
        String promise = "";
        for (String line : Files.readAllLines(Path.of("../shared/DOC.md"))) {
            Matcher promised = PROMISED.matcher(line);
            Matcher signed = SIGNED.matcher(line);
            if (promised.matches()) {
                promise = promised.group(1);
            } else if (signed.matches() && !promise.isEmpty()) {
                due.add(promise + " " + signed.group(1) + "(" + signed.group(2).replace("int ", "") + ")");
            }
        }
        Due.is("rows of promises", due.size(), 37);
        Due.holds(rows + " as " + due, rows.equals(due));
        Set<String> names = new TreeSet<>();
        due.forEach(call -> names.add(call.replaceAll("^\\d+ |\\(.*", "")));
        for (Method m : BellForgiven.class.getDeclaredMethods()) {
            Due.holds(m.getName() + " has a row", !Modifier.isPublic(m.getModifiers())
                    || names.contains(m.getName()));
        }
    }
}
