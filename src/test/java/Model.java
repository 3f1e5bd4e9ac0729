import java.math.BigInteger;
import java.util.ArrayDeque;
import java.util.ArrayList;
import java.util.Deque;
import java.util.HashMap;
import java.util.List;
import java.util.Map;
import java.util.regex.Matcher;
import java.util.regex.Pattern;

/**
 * The document again, in another and slower way: worlds are copied and strokes are carried out on
 * the copy, rows are tried one after the other. ModelTest holds the program against it.
 */
final class Model {
    private static final int NONE = -1, BAD = -2, NO = -3, FULL = -4;

    private static final class Person {
        int kind;
        int rung;
    }

    private static final class Wrong {
        int kind;
        int a;
        int b;
        int gravity;
        int age;
        boolean off;
    }

    private static final class World {
        final List<Person> people = new ArrayList<>();
        final List<Wrong> wrongs = new ArrayList<>();
        final List<int[]> seen = new ArrayList<>();
        final List<int[]> notes = new ArrayList<>();
        final List<int[]> marks = new ArrayList<>();
        final Deque<World> before = new ArrayDeque<>();
        int day;

        World copy() {
            World w = new World();
            for (Person p : people) {
                Person q = new Person();
                q.kind = p.kind;
                q.rung = p.rung;
                w.people.add(q);
            }
            for (Wrong p : wrongs) {
                Wrong q = new Wrong();
                q.kind = p.kind;
                q.a = p.a;
                q.b = p.b;
                q.gravity = p.gravity;
                q.age = p.age;
                q.off = p.off;
                w.wrongs.add(q);
            }
            w.day = day;
            return w;
        }

        World wholeCopy() {
            World w = copy();
            w.seen.addAll(seen);
            w.notes.addAll(notes);
            w.marks.addAll(marks);
            for (World moment : before) {
                w.before.addLast(moment.copy());
            }
            return w;
        }

        void remember() {
            before.addLast(copy());
            if (before.size() > 8) {
                before.removeFirst();
            }
        }

        void goBack() {
            World moment = before.removeLast();
            for (int i = 0; i < people.size(); i++) {
                people.get(i).rung = moment.people.get(i).rung;
            }
            for (int k = 0; k < wrongs.size(); k++) {
                wrongs.get(k).age = moment.wrongs.get(k).age;
                wrongs.get(k).off = moment.wrongs.get(k).off;
            }
            day = moment.day;
        }

        int person(int kind) {
            Person p = new Person();
            p.kind = kind;
            people.add(p);
            return people.size() - 1;
        }

        int wrong(int kind, int a, int b, int gravity) {
            Wrong w = new Wrong();
            w.kind = kind;
            w.a = a;
            w.b = b;
            w.gravity = gravity;
            wrongs.add(w);
            return wrongs.size() - 1;
        }

        void oneDay() {
            for (Wrong w : wrongs) {
                if (!w.off && w.age < 99) {
                    w.age++;
                }
            }
            day++;
        }

        void oneDayOfNow() {
            if (day < 999) {
                oneDay();
            }
        }

        int weight(int k) {
            Wrong w = wrongs.get(k);
            return weigh(w.kind, w.gravity, w.age);
        }

        int mercy(int i) {
            return letsOff(people.get(i).kind, people.get(i).rung, day);
        }

        boolean could(int k) {
            return !wrongs.get(k).off && weight(k) <= mercy(wrongs.get(k).b);
        }

        void stroke(int k) {
            wrongs.get(k).off = true;
            people.get(wrongs.get(k).a).rung++;
        }

        int off() {
            int n = 0;
            for (Wrong w : wrongs) {
                n += w.off ? 1 : 0;
            }
            return n;
        }

        boolean guilty(int i) {
            for (Wrong w : wrongs) {
                if (w.a == i && !w.off) {
                    return true;
                }
            }
            return false;
        }
    }

    private World world = new World();
    private final Map<Integer, World> images = new HashMap<>();
    private final StringBuilder text = new StringBuilder();
    private BigInteger above = BigInteger.ZERO;
    private BigInteger below = BigInteger.ONE;
    private final int[] refused = new int[3];

    // ---- kinds, each told by the one that it stands under

    static int weigh(int kind, int g, int d) {
        switch (kind) {
            case 0: return g;
            case 1: {
                int less = weigh(0, g, d);
                for (int at = 3; at <= d; at += 3) {
                    less--;
                }
                return less < 0 ? 0 : less;
            }
            case 2: {
                int more = 0;
                for (int at = 5; at <= d && more < 5; at += 5) {
                    more++;
                }
                return weigh(0, g, d) + more;
            }
            case 3: return weigh(1, g, d) < 2 ? 2 : weigh(1, g, d);
            case 4: return weigh(2, g, d) + weigh(2, g, d);
            default: return d >= 1 && d / 7 * 7 == d ? 0 : weigh(1, g, d);
        }
    }

    static int letsOff(int kind, int r, int t) {
        switch (kind) {
            case 0: return 2 + r;
            case 1: return 3 + letsOff(0, r, t);
            case 2: return letsOff(0, r, t) / 2;
            case 3: return t / 30 * 30 == t ? 30 : letsOff(2, r, t);
            case 4: return letsOff(2, r, t) + (r > 1 ? 1 : 0);
            default: {
                int more = 0;
                for (int at = 10; at <= t && more < 9; at += 10) {
                    more++;
                }
                return letsOff(1, r, t) + more;
            }
        }
    }

    // ---- refusals

    private int bad() {
        refused[0]++;
        return BAD;
    }

    private int no() {
        refused[1]++;
        return NO;
    }

    private int full() {
        refused[2]++;
        return FULL;
    }

    private boolean person(int i) {
        return i >= 0 && i < world.people.size();
    }

    private boolean wrong(int k) {
        return k >= 0 && k < world.wrongs.size();
    }

    private static boolean told(int x, int from, int to) {
        return from <= x && x <= to;
    }

    // ---- what a test wants to know for the calls that it makes up

    int people() {
        return world.people.size();
    }

    int wrongs() {
        return world.wrongs.size();
    }

    int weightOf(int k, int d) {
        return wrong(k) ? weigh(world.wrongs.get(k).kind, world.wrongs.get(k).gravity, d) : 0;
    }

    // ---- the calls, by their number

    long call(int which, int p, int q, int r, int s) {
        switch (which) {
            case 0: return valley();
            case 1: return one(p);
            case 2: return wrong(p, q, r, s);
            case 3: return type(p);
            case 4: return clear();
            case 5: return read();
            case 6: return days(p);
            case 7: return rings(p);
            case 8: return undo();
            case 9: return of(p, q);
            case 10: return about(p, q);
            case 11: return may();
            case 12: return peal(-1, 0);
            case 13: return when(p);
            case 14: return few(p, q);
            case 15: return hush(p);
            case 16: return round(p);
            case 17: return seen(p, q, r, s);
            default: return callMore(which, p, q, r, s);
        }
    }

    private long callMore(int which, int p, int q, int r, int s) {
        switch (which) {
            case 18: return grave(p, q);
            case 19: return tell(p);
            case 20: return note(p, q, r, s);
            case 21: return mark(p, q, r, s);
            case 22: return forget(p);
            case 23: return wrong(p) ? is(p) : bad();
            case 24: return look(p);
            case 25: return person(p) ? kinds(p) : bad();
            case 26: return ask(p);
            case 27: return first(p, q);
            case 28: return rust(p, q, r);
            case 29: return easters(p, q);
            case 30: return told(p, 0, 1) ? (p == 0 ? above : below).longValue() : bad();
            case 31: return image(p);
            case 32: return from(p);
            case 33: return status(p);
            case 34: return told(p, 0, 10) ? count(p) : bad();
            default: return digest();
        }
    }

    private int valley() {
        int had = world.people.size();
        world = new World();
        return had;
    }

    private int one(int kind) {
        if (!told(kind, 0, 5)) {
            return bad();
        }
        if (world.people.size() == 6) {
            return full();
        }
        world.before.clear();
        return world.person(kind);
    }

    private int wrong(int kind, int a, int b, int gravity) {
        if (!told(kind, 0, 5) || !person(a) || !person(b) || a == b || !told(gravity, 1, 9)) {
            return bad();
        }
        if (world.wrongs.size() == 8) {
            return full();
        }
        world.before.clear();
        return world.wrong(kind, a, b, gravity);
    }

    private int type(int c) {
        if (!told(c, 0, 127)) {
            return bad();
        }
        if (text.length() == 150) {
            return full();
        }
        text.append((char) c);
        return text.length();
    }

    private int clear() {
        int had = text.length();
        text.setLength(0);
        return had;
    }

    // ---- the text, by a pattern for its tokens

    private static final Pattern TOKEN = Pattern.compile(" *([a-z]+|[0-9]+|[^ ])?", Pattern.DOTALL);

    private int read() {
        World w = new World();
        Matcher m = TOKEN.matcher(text);
        List<String> tokens = new ArrayList<>();
        List<Integer> places = new ArrayList<>();
        int at = 0;
        while (at < text.length() && m.find(at) && m.group(1) != null) {
            tokens.add(m.group(1));
            places.add(m.start(1));
            at = m.end();
        }
        int items = 0;
        List<String> item = new ArrayList<>();
        for (int n = 0; n < tokens.size(); n++) {
            if (!stands(w, item, tokens.get(n), items)) {
                return -10 - places.get(n);
            }
            item.add(tokens.get(n));
            if (tokens.get(n).equals(";")) {
                carryOut(w, item);
                item.clear();
                items++;
            }
        }
        if (items == 0 || !item.isEmpty()) {
            return -10 - text.length();
        }
        world = w;
        return items;
    }

    private static boolean stands(World w, List<String> item, String token, int items) {
        if (item.isEmpty()) {
            switch (token) {
                case "valley": return items == 0;
                case "one": return items > 0 && w.people.size() < 6;
                case "wrong": return items > 0 && w.wrongs.size() < 8;
                case "ring":
                case "days": return items > 0;
                default: return false;
            }
        }
        int numbers = item.size() - 1;
        int due = item.get(0).equals("valley") ? 0 : item.get(0).equals("wrong") ? 4 : 1;
        if (numbers == due) {
            return token.equals(";");
        }
        if (!token.matches("[0-9]{1,2}")) {
            return false;
        }
        int x = Integer.parseInt(token);
        switch (item.get(0)) {
            case "one": return x <= 5;
            case "ring": return x < w.wrongs.size() && w.could(x);
            case "days": return x >= 1;
            default: break;
        }
        boolean isThere = x < w.people.size();
        switch (numbers) {
            case 0: return x <= 5;
            case 1: return isThere;
            case 2: return isThere && x != Integer.parseInt(item.get(2));
            default: return told(x, 1, 9);
        }
    }

    private static void carryOut(World w, List<String> item) {
        int[] x = new int[4];
        for (int n = 1; n < item.size() - 1; n++) {
            x[n - 1] = Integer.parseInt(item.get(n));
        }
        switch (item.get(0)) {
            case "one":
                w.person(x[0]);
                break;
            case "wrong":
                w.wrong(x[0], x[1], x[2], x[3]);
                break;
            case "ring":
                w.stroke(x[0]);
                break;
            case "days":
                for (int n = 0; n < x[0]; n++) {
                    w.oneDayOfNow();
                }
                break;
            default:
                break;
        }
    }

    // ---- days

    private int days(int n) {
        if (!told(n, 1, 60)) {
            return bad();
        }
        world.remember();
        for (int d = 0; d < n; d++) {
            world.oneDayOfNow();
        }
        return world.day;
    }

    private int rings(int k) {
        if (!wrong(k)) {
            return bad();
        }
        if (!world.could(k)) {
            return no();
        }
        world.remember();
        world.stroke(k);
        return world.people.get(world.wrongs.get(k).a).rung;
    }

    private int undo() {
        if (world.before.isEmpty()) {
            return no();
        }
        world.goBack();
        return world.day;
    }

    private int of(int i, int what) {
        if (!person(i) || !told(what, 0, 3)) {
            return bad();
        }
        Person p = world.people.get(i);
        int[] all = {p.kind, p.rung, world.mercy(i), world.guilty(i) ? 1 : 0};
        return all[what];
    }

    private int about(int k, int what) {
        if (!wrong(k) || !told(what, 0, 6)) {
            return bad();
        }
        Wrong w = world.wrongs.get(k);
        int[] all = {w.kind, w.a, w.b, w.gravity, w.age, w.off ? 1 : 0, world.weight(k)};
        return all[what];
    }

    // ---- who is let off

    int may() {
        int bits = 0;
        for (int k = 0; k < world.wrongs.size(); k++) {
            bits += world.could(k) ? 1 << k : 0;
        }
        return bits;
    }

    private int peal(int stop, int still) {
        World w = world.copy();
        int bits = 0;
        boolean again = true;
        while (again) {
            again = false;
            for (int k = w.wrongs.size() - 1; k >= 0; k--) {
                if (k != stop && (still & 1 << k) == 0 && w.could(k)) {
                    w.stroke(k);
                    bits += 1 << k;
                    again = true;
                }
            }
        }
        return bits;
    }

    private int when(int k) {
        if (!wrong(k)) {
            return bad();
        }
        World w = world.copy();
        for (int d = 0; d <= 60; d++) {
            if (w.could(k)) {
                return d;
            }
            w.oneDay();
        }
        return NONE;
    }

    private int few(int k, int n) {
        if (!wrong(k) || n < -1) {
            bad();
            return -10;
        }
        List<Integer> row = world.wrongs.get(k).off ? new ArrayList<>() : null;
        for (int size = 1; row == null && size <= world.wrongs.size(); size++) {
            row = firstRow(world, k, size);
        }
        if (row == null) {
            return -6;
        }
        return n == -1 ? row.size() : n < row.size() ? row.get(n) : -5;
    }

    private static List<Integer> firstRow(World from, int k, int size) {
        for (int w = 0; w < from.wrongs.size(); w++) {
            if (!from.could(w) || (w == k) != (size == 1)) {
                continue;
            }
            List<Integer> row = new ArrayList<>();
            if (size > 1) {
                World next = from.copy();
                next.stroke(w);
                row = firstRow(next, k, size - 1);
            }
            if (row != null) {
                row.add(0, w);
                return row;
            }
        }
        return null;
    }

    private int hush(int k) {
        if (!wrong(k)) {
            return bad();
        }
        if (world.could(k)) {
            return NONE;
        }
        for (int size = 0; size < 8; size++) {
            for (int still = 0; still < 1 << world.wrongs.size(); still++) {
                if (Integer.bitCount(still) == size && (still >> k & 1) == 0
                        && (peal(-1, still) >> k & 1) == 0) {
                    return still;
                }
            }
        }
        return NONE;
    }

    private int round(int i) {
        if (!person(i)) {
            return bad();
        }
        int best = 99;
        for (Wrong w : world.wrongs) {
            if (w.a == i && !w.off) {
                best = Math.min(best, 1 + way(w.b, i, 1 << i));
            }
        }
        return best >= 99 ? NONE : best;
    }

    private int way(int from, int to, int been) {
        if (from == to) {
            return 0;
        }
        if ((been >> from & 1) != 0) {
            return 99;
        }
        int best = 99;
        for (Wrong w : world.wrongs) {
            if (w.a == from && !w.off) {
                best = Math.min(best, 1 + way(w.b, to, been | 1 << from));
            }
        }
        return best;
    }

    // ---- how grave it was

    private int seen(int k, int d, int l, int off) {
        if (!wrong(k) || !told(d, 0, 99) || !told(l, 0, 40) || !told(off, 0, 1)) {
            return bad();
        }
        return add(world.seen, 5, k, d, l, off);
    }

    private int add(List<int[]> rows, int most, int... row) {
        if (rows.size() == most) {
            return full();
        }
        rows.add(row);
        return rows.size();
    }

    private List<Integer> gravities(int k) {
        List<Integer> all = new ArrayList<>();
        for (int g = 1; g <= 9; g++) {
            boolean fits = true;
            for (int[] s : world.seen) {
                int off = weigh(world.wrongs.get(k).kind, g, s[1]) <= s[2] ? 1 : 0;
                fits &= s[0] != k || off == s[3];
            }
            if (fits) {
                all.add(g);
            }
        }
        return all;
    }

    private int grave(int k, int what) {
        if (!wrong(k) || !told(what, 0, 2)) {
            return bad();
        }
        List<Integer> all = gravities(k);
        if (what == 0) {
            return all.size();
        }
        return all.isEmpty() ? NONE : all.get(what == 1 ? 0 : all.size() - 1);
    }

    private int tell(int k) {
        if (!wrong(k)) {
            return bad();
        }
        List<Integer> all = gravities(k);
        if (all.isEmpty()) {
            return NONE;
        }
        int[] parts = new int[1000];
        for (int at = 0; at < 1000; at++) {
            int off = 0;
            for (int g : all) {
                off += weigh(world.wrongs.get(k).kind, g, at / 100) <= at % 100 ? 1 : 0;
            }
            parts[at] = at % 100 > 20 ? 1000 : Math.max(off, all.size() - off);
        }
        return leastOf(parts);
    }

    private static int leastOf(int[] xs) {
        int best = 0;
        for (int at = 1; at < xs.length; at++) {
            if (xs[at] < xs[best]) {
                best = at;
            }
        }
        return best;
    }

    private int note(int k, int g, int d, int x) {
        if (!wrong(k) || !told(g, 1, 9) || !told(d, 0, 99) || !told(x, 0, 40)) {
            return bad();
        }
        return add(world.notes, 6, k, g, d, x);
    }

    private int mark(int i, int r, int t, int x) {
        if (!person(i) || !told(r, 0, 9) || !told(t, 0, 99) || !told(x, 0, 60)) {
            return bad();
        }
        return add(world.marks, 6, i, r, t, x);
    }

    private int forget(int what) {
        if (!told(what, 0, 2)) {
            return bad();
        }
        List<int[]> rows = what == 0 ? world.seen : what == 1 ? world.notes : world.marks;
        int had = rows.size();
        rows.clear();
        return had;
    }

    private int is(int k) {
        int bits = 0;
        for (int kind = 0; kind < 6; kind++) {
            int fixed = kind;
            boolean fits = world.notes.stream()
                    .allMatch(n -> n[0] != k || weigh(fixed, n[1], n[2]) == n[3]);
            bits += fits ? 1 << kind : 0;
        }
        return bits;
    }

    private int kinds(int i) {
        int bits = 0;
        for (int kind = 0; kind < 6; kind++) {
            int fixed = kind;
            boolean fits = world.marks.stream()
                    .allMatch(m -> m[0] != i || letsOff(fixed, m[1], m[2]) == m[3]);
            bits += fits ? 1 << kind : 0;
        }
        return bits;
    }

    private int look(int k) {
        if (!wrong(k)) {
            return bad();
        }
        int bits = is(k);
        if (bits == 0) {
            return NONE;
        }
        int[] most = new int[31];
        for (int d = 0; d <= 30; d++) {
            Map<Integer, Integer> groups = new HashMap<>();
            for (int kind = 0; kind < 6; kind++) {
                if ((bits >> kind & 1) != 0) {
                    groups.merge(weigh(kind, world.wrongs.get(k).gravity, d), 1, Integer::sum);
                }
            }
            most[d] = groups.values().stream().max(Integer::compare).get();
        }
        return leastOf(most);
    }

    private int ask(int i) {
        if (!person(i)) {
            return bad();
        }
        int bits = kinds(i);
        if (bits == 0) {
            return NONE;
        }
        int[] most = new int[600];
        for (int at = 0; at < 600; at++) {
            Map<Integer, Integer> groups = new HashMap<>();
            for (int kind = 0; kind < 6; kind++) {
                if ((bits >> kind & 1) != 0) {
                    groups.merge(letsOff(kind, at / 100, at % 100), 1, Integer::sum);
                }
            }
            most[at] = at % 100 > 30 ? 99 : groups.values().stream().max(Integer::compare).get();
        }
        return leastOf(most);
    }

    private int first(int a, int b) {
        if (!person(a) || !person(b) || a == b) {
            return bad();
        }
        int[][] toOne = {{-4, 6}, {-2, 7}};
        int[][] toA = {toOne[0], toOne[1].clone()};
        int[][] toB = {toOne[0], toOne[1].clone()};
        for (int other = 0; other < 2; other++) {
            toA[1][other] -= world.mercy(a) < 3 ? 9 : 0;
            toB[1][other] -= world.mercy(b) < 3 ? 9 : 0;
        }
        int bits = 0;
        for (int pair = 0; pair < 4; pair++) {
            int x = pair % 2;
            int y = pair / 2;
            boolean rests = toA[1 - x][y] <= toA[x][y] && toB[1 - y][x] <= toB[y][x];
            bits += rests ? 1 << pair : 0;
        }
        return bits;
    }

    private int rust(int k, int bits, int c) {
        if (!wrong(k) || bits < 0 || bits >= 1 << world.wrongs.size() || !told(c, 0, 10)
                || (bits >> k & 1) != 0) {
            return bad();
        }
        // Each that can be let off takes one of 10: the sum is over 10 by as many as are told.
        BigInteger all = BigInteger.TEN.pow(world.wrongs.size());
        BigInteger good = rustFrom(world, k, bits, c, 0);
        BigInteger common = good.gcd(all);
        above = good.divide(common);
        below = all.divide(common);
        return 1;
    }

    private static BigInteger rustFrom(World w, int k, int bits, int c, int at) {
        if (at == w.wrongs.size()) {
            return w.could(k) ? BigInteger.ONE : BigInteger.ZERO;
        }
        if ((bits >> at & 1) == 0 || !w.could(at)) {
            return rustFrom(w, k, bits, c, at + 1).multiply(BigInteger.TEN);
        }
        World silent = w.copy();
        silent.wrongs.get(at).off = true;
        World loud = w.copy();
        loud.stroke(at);
        return rustFrom(silent, k, bits, c, at + 1).multiply(BigInteger.valueOf(c))
                .add(rustFrom(loud, k, bits, c, at + 1).multiply(BigInteger.valueOf(10 - c)));
    }

    private int easters(int seed, int n) {
        if (!told(seed, 0, 999999) || !told(n, 0, 60)) {
            return bad();
        }
        World w = world.copy();
        BigInteger x = BigInteger.valueOf(seed);
        for (int d = 0; d < n; d++) {
            x = x.multiply(BigInteger.valueOf(1103515245)).add(BigInteger.valueOf(12345))
                    .mod(BigInteger.valueOf(2147483648L));
            int k = x.divide(BigInteger.valueOf(65536)).mod(BigInteger.valueOf(8)).intValue();
            if (k < w.wrongs.size() && w.could(k)) {
                w.stroke(k);
            }
            w.oneDay();
        }
        return w.off();
    }

    // ---- what there is

    private int image(int i) {
        if (!told(i, 0, 1)) {
            return bad();
        }
        images.put(i, world.wholeCopy());
        return 1;
    }

    private int from(int i) {
        if (!told(i, 0, 1)) {
            return bad();
        }
        if (!images.containsKey(i)) {
            return no();
        }
        world = images.get(i).wholeCopy();
        return 1;
    }

    private int status(int what) {
        if (!told(what, 0, 2)) {
            bad();
            return -1;
        }
        return refused[what];
    }

    private int count(int what) {
        int guilty = 0;
        int rung = 0;
        for (int i = 0; i < world.people.size(); i++) {
            guilty += world.guilty(i) ? 1 : 0;
            rung += world.people.get(i).rung;
        }
        int[] all = {world.people.size(), world.wrongs.size(), world.off(), guilty, world.day, rung,
            world.seen.size(), world.notes.size(), world.marks.size(), world.before.size(),
            text.length()};
        return all[what];
    }

    private long digest() {
        List<Long> all = new ArrayList<>();
        for (int what = 0; what <= 10; what++) {
            all.add((long) count(what));
        }
        for (Person p : world.people) {
            all.add((long) p.kind);
            all.add((long) p.rung);
        }
        for (int k = 0; k < world.wrongs.size(); k++) {
            for (int what = 0; what <= 5; what++) {
                all.add((long) about(k, what));
            }
        }
        for (List<int[]> rows : List.of(world.seen, world.notes, world.marks)) {
            for (int[] row : rows) {
                for (int cell : row) {
                    all.add((long) cell);
                }
            }
        }
        all.add(above.longValue());
        all.add(below.longValue());
        long h = 1693;
        for (long v : all) {
            h = 31 * h + v;
        }
        return h;
    }
}
