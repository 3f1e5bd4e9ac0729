import com.sun.management.ThreadMXBean;
import java.io.IOException;
import java.lang.management.ManagementFactory;
import java.lang.reflect.Constructor;
import java.lang.reflect.Field;
import java.lang.reflect.Method;
import java.lang.reflect.Modifier;
import java.nio.file.Files;
import java.nio.file.Path;
import java.util.ArrayList;
import java.util.Collections;
import java.util.HashSet;
import java.util.List;
import java.util.Set;
import java.util.function.IntToLongFunction;
import java.util.function.ToLongFunction;
import java.util.regex.Pattern;

/** The face is the document's and no more; the source keeps to the language; a run to its room. */
public final class FaceTest {
    private static final String FACE = "int valley(), int one(int), int wrong(int int int int),"
            + " int type(int), int clear(), int read(), int days(int), int rings(int), int undo(),"
            + " int of(int int), int about(int int), int may(), int peal(), int when(int),"
            + " int few(int int), int hush(int), int round(int), int seen(int int int int),"
            + " int grave(int int), int tell(int), int note(int int int int),"
            + " int mark(int int int int), int forget(int), int is(int), int look(int),"
            + " int kinds(int), int ask(int), int first(int int), int rust(int int int),"
            + " int easters(int int), long part(int), int image(int), int from(int),"
            + " int status(int), int count(int), long digest()";
    private static final String[] FORBIDDEN = {"throw", "try", "catch", "finally", "synchronized",
        "assert", "package", "protected", "volatile", "transient", "native", "::", "hashCode",
        "String toString", "import (?!java\\.util\\.(ArrayList|Arrays|Iterator|List|\\*);)",
        "System\\.(?!arraycopy)", "\\w+Exact\\("};
    private static final long ROOM_IN_BYTES = 30_000_000;
    private static final int CALLS = 512;

    private FaceTest() {
    }

    public static void main(String[] args) throws IOException {
        Due.part("the face");
        members();
        nested();
        Due.part("the language");
        source(Files.readString(Path.of("src/main/java/BellForgiven.java")));
        Due.part("the room");
        room();
        Due.end();
    }

    private static void members() {
        Class<BellForgiven> c = BellForgiven.class;
        Due.holds("public and final", c.getModifiers() == (Modifier.PUBLIC | Modifier.FINAL));
        List<String> face = new ArrayList<>();
        Set<String> names = new HashSet<>();
        for (Method m : c.getDeclaredMethods()) {
            if (Modifier.isPublic(m.getModifiers())) {
                List<String> told = new ArrayList<>();
                for (Class<?> p : m.getParameterTypes()) {
                    told.add(p.getName());
                }
                face.add(m.getReturnType() + " " + m.getName() + "(" + String.join(" ", told) + ")");
                names.add(m.getName());
                Due.holds(m + " is not static", !Modifier.isStatic(m.getModifiers()));
            }
        }
        List<String> due = new ArrayList<>(List.of(FACE.split(", ")));
        Collections.sort(due);
        Collections.sort(face);
        Due.holds("the methods are the document's: " + face, face.equals(due));
        for (Method m : c.getDeclaredMethods()) {
            boolean isPrivate = Modifier.isPrivate(m.getModifiers());
            Due.holds(m + " is public or private", isPrivate || Modifier.isPublic(m.getModifiers()));
            Due.holds(m + " bears a name of its own", !isPrivate || !names.contains(m.getName()));
        }
        for (Constructor<?> k : c.getDeclaredConstructors()) {
            Due.holds("one constructor", k.getParameterCount() == 0
                    && Modifier.isPublic(k.getModifiers()));
        }
        Set<String> constants = Set.of("NONE", "BAD", "NO", "FULL");
        for (Field f : c.getDeclaredFields()) {
            int mode = f.getModifiers();
            boolean isPublic = Modifier.isPublic(mode);
            Due.holds(f + " is as told", isPublic == constants.contains(f.getName())
                    && isPublic != Modifier.isPrivate(mode)
                    && (!Modifier.isStatic(mode) || Modifier.isFinal(mode)));
        }
    }

    private static void nested() {
        Class<?>[] inside = BellForgiven.class.getDeclaredClasses();
        Due.holds("some twelve classes at most", inside.length <= 14);
        Set<String> names = new HashSet<>();
        for (Method m : BellForgiven.class.getMethods()) {
            names.add(m.getName());
        }
        for (Class<?> c : inside) {
            Due.holds(c + " is static and not public", Modifier.isStatic(c.getModifiers())
                    && !Modifier.isPublic(c.getModifiers()));
            int fields = 0;
            for (Field f : c.getDeclaredFields()) {
                boolean isStatic = Modifier.isStatic(f.getModifiers());
                fields += isStatic ? 0 : 1;
                Due.holds(f + ": what is static is final",
                        !isStatic || Modifier.isFinal(f.getModifiers()));
            }
            Due.holds(c + " has some twenty fields at most", fields <= 22);
            for (Method m : c.getDeclaredMethods()) {
                Due.holds(m + " has seven parameters at most", m.getParameterCount() <= 7);
                Due.holds(m + " bears a name of its own", !Modifier.isPrivate(m.getModifiers())
                        || !names.contains(m.getName()));
            }
        }
    }

    private static void source(String text) {
        for (int at = 0; at < text.length(); at++) {
            char sign = text.charAt(at);
            if (sign != '\n' && sign != '\t' && (sign < 32 || sign > 126)) {
                Due.holds("the sign at " + at, false);
            }
        }
        String code = text.replaceAll("(?s)/\\*.*?\\*/", "").replaceAll("//[^\n]*", "");
        for (String word : FORBIDDEN) {
            String edge = Character.isLetter(word.charAt(0)) ? "\\b" : "";
            Due.holds("no " + word, !Pattern.compile(edge + word).matcher(code).find());
        }
        for (String line : code.split("\n")) {
            boolean isCase = Pattern.matches("\\s*(case|default)\\b.*", line);
            Due.holds("no lambda: " + line.strip(), isCase || !line.contains("->"));
        }
        Due.holds("strings are not joined by +", !Pattern.compile("\" *\\+|\\+ *\"").matcher(code).find());
        methodLengths(code.split("\n"));
    }

    private static void methodLengths(String[] lines) {
        int start = -1;
        String end = "";
        for (int n = 0; n < lines.length; n++) {
            String line = lines[n];
            if (start < 0 && line.endsWith("{") && line.contains("(") && !line.contains("else")
                    && Pattern.matches(" {4,8}[a-zA-Z].*", line)) {
                start = n;
                end = line.substring(0, line.length() - line.stripLeading().length()) + "}";
            } else if (start >= 0 && line.equals(end)) {
                Due.holds(lines[start].strip() + " is short", n - start <= 64);
                start = -1;
            }
        }
    }

    /** A run's calls share one room, so each row of dear calls is to keep to it, too. */
    private static void room() {
        long sum = took("all calls once", FaceTest::callAll);
        sum += took("few", x -> often(x, k -> x.few(k, -1)));
        sum += took("hush", x -> often(x, x::hush));
        sum += took("rust", x -> often(x, k -> x.rust(k, 255 & ~(1 << k), 3)));
        sum += took("easters", x -> often(x, k -> x.easters(k, 60)));
        sum += took("look", x -> often(x, x::look));
        sum += took("tell", x -> often(x, x::tell));
        sum += took("image and from", x -> often(x, k -> x.image(k & 1) + x.from(k & 1)));
        sum += took("read", FaceTest::readOften);
        Due.holds("something was answered", sum != 0);
    }

    private static long took(String what, ToLongFunction<BellForgiven> calls) {
        ThreadMXBean threads = (ThreadMXBean) ManagementFactory.getThreadMXBean();
        long id = Thread.currentThread().getId();
        long before = threads.getThreadAllocatedBytes(id);
        long sum = calls.applyAsLong(new BellForgiven());
        long taken = threads.getThreadAllocatedBytes(id) - before;
        Due.holds(taken + " bytes for " + what, taken < ROOM_IN_BYTES);
        return sum;
    }

    private static long often(BellForgiven x, IntToLongFunction call) {
        for (int i = 0; i < 6; i++) {
            x.one(i);
        }
        for (int k = 0; k < 8; k++) {
            x.wrong(k % 6, k % 6, (k + 1) % 6, k % 3 + 1);
        }
        long sum = 0;
        for (int n = 0; n < (CALLS - 14) / 2; n++) {
            sum += call.applyAsLong(n % 8);
        }
        return sum;
    }

    private static long readOften(BellForgiven x) {
        String text = "valley;one 0;one 1;wrong 0 0 1 4;wrong 0 0 1 4;days 4;ring 0;";
        for (int n = 0; n < text.length(); n++) {
            x.type(text.charAt(n));
        }
        long sum = 0;
        for (int n = text.length(); n < CALLS; n++) {
            sum += x.read();
        }
        return sum;
    }

    private static long callAll(BellForgiven x) {
        long sum = x.valley() + x.clear() + x.undo();
        for (int n = 0; n < 7; n++) {
            sum += x.one(n % 6);
        }
        for (int n = 0; n < 9; n++) {
            sum += x.wrong(n % 6, n % 6, (n + 1) % 6, n % 9 + 1);
        }
        for (int n = 0; n < 12; n++) {
            sum += x.days(3) + x.rings(n % 8) + x.seen(n % 8, n, 4, 1) + x.note(n % 8, 3, n, 3);
            sum += x.mark(n % 6, 1, n, 3);
        }
        sum += x.image(0) + x.from(0) + x.undo() + x.may() + x.peal() + x.easters(7, 60);
        for (int k = 0; k < 9; k++) {
            sum += x.of(k, k % 4) + x.about(k, k % 7) + x.when(k) + x.few(k, -1) + x.few(k, 0);
            sum += x.hush(k) + x.round(k) + x.grave(k, k % 3) + x.tell(k) + x.is(k) + x.look(k);
            sum += x.kinds(k) + x.ask(k) + x.first(k, 0) + x.rust(k, 255 & ~(1 << k), 3);
        }
        sum += x.part(0) + x.part(1) + x.status(0) + x.count(9) + x.digest();
        sum += x.forget(0) + x.forget(1) + x.forget(2);
        String text = "valley;one 0;one 1;wrong 0 0 1 4;days 4;ring 0;";
        for (int n = 0; n < text.length(); n++) {
            sum += x.type(text.charAt(n));
        }
        return sum + x.read();
    }
}
