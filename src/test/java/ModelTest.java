/** Runs of calls, told by a seed, on the program and on the model: each answer is to be alike. */
public final class ModelTest {
    private static final int RUNS = 1500;
    private static final int CALLS = 512;
    private static final String[] NAMES = {"valley", "one", "wrong", "type", "clear", "read", "days",
        "rings", "undo", "of", "about", "may", "peal", "when", "few", "hush", "round", "seen",
        "grave", "tell", "note", "mark", "forget", "is", "look", "kinds", "ask", "first", "rust",
        "easters", "part", "image", "from", "status", "count", "digest"};
    private static final int[] WIDE = {Integer.MIN_VALUE, -1000, -11, -4, -3, -2, -1, 0, 1, 2, 3, 4,
        5, 6, 7, 8, 9, 10, 11, 30, 40, 41, 59, 60, 61, 62, 98, 99, 100, 127, 128, 150, 254, 255, 256,
        999999, 1000000, Integer.MAX_VALUE};

    private long state;

    private ModelTest(long seed) {
        state = seed * 2654435761L + 88172645463325252L;
    }

    private int below(int n) {
        state ^= state << 13;
        state ^= state >>> 7;
        state ^= state << 17;
        return (int) Long.remainderUnsigned(state, n);
    }

    private boolean odds(int percent) {
        return below(100) < percent;
    }

    public static void main(String[] args) {
        long[] asked = new long[NAMES.length];
        for (int run = 1; run <= RUNS; run++) {
            new ModelTest(run).run(run, asked);
        }
        StringBuilder all = new StringBuilder();
        for (int which = 0; which < NAMES.length; which++) {
            all.append(NAMES[which]).append(' ').append(asked[which]).append("  ");
            Due.holds(NAMES[which] + " was called often", asked[which] > 1000);
        }
        System.out.println(all);
        Due.end();
    }

    private BellForgiven x;
    private Model m;
    private int calls;
    private long[] asked;
    private StringBuilder said;

    private void run(int number, long[] asked) {
        Due.part("run " + number);
        x = new BellForgiven();
        m = new Model();
        this.asked = asked;
        said = new StringBuilder();
        int wildness = number % 5 == 0 ? 25 : number % 2 == 0 ? 5 : 0;
        if (number % 3 == 0) {
            writeSomeText();
            call(5);
        } else {
            people();
        }
        while (calls < CALLS) {
            step(wildness);
        }
    }

    private void people() {
        int people = 2 + below(5);
        for (int n = 0; n < people; n++) {
            call(1, below(6));
        }
        int wrongs = below(9);
        for (int n = 0; n < wrongs; n++) {
            int a = below(people);
            call(2, below(6), a, (a + 1 + below(people - 1)) % people, 1 + below(odds(50) ? 9 : 4));
        }
    }

    private void step(int wildness) {
        if (odds(wildness)) {
            call(below(NAMES.length), wild(), wild(), wild(), wild());
        } else if (odds(35)) {
            change();
        } else if (odds(2)) {
            writeSomeText();
            call(5);
        } else if (odds(2)) {
            call(odds(60) ? 32 : odds(60) ? 31 : 0, below(2));
            people();
        } else {
            question();
        }
    }

    private int wild() {
        return WIDE[below(WIDE.length)];
    }

    private int aPerson() {
        return below(Math.max(1, m.people()));
    }

    private int aWrong() {
        return below(Math.max(1, m.wrongs()));
    }

    private void change() {
        int k = aWrong();
        int d = below(odds(50) ? 10 : 100);
        int r = below(odds(50) ? 4 : 10);
        int g = 1 + below(9);
        switch (below(12)) {
            case 0:
            case 1: call(6, 1 + below(odds(70) ? 8 : 60)); break;
            case 2:
            case 3: call(7, mayBe(k)); break;
            case 4:
            case 5: call(8); break;
            case 6:
                int weight = m.weightOf(k, d);
                int l = below(odds(50) ? 21 : 41);
                call(17, k, d, l, odds(90) ? weight <= l ? 1 : 0 : below(2));
                break;
            case 7: call(20, k, g, d, odds(80) ? Model.weigh(below(6), g, d) : below(41)); break;
            case 8:
                call(21, aPerson(), r, d, odds(80) ? Model.letsOff(below(6), r, d) : below(61));
                break;
            case 9: call(22, below(3)); break;
            case 10: call(odds(50) ? 31 : 32, below(2)); break;
            default:
                int a = aPerson();
                call(odds(20) ? 1 : 2, below(6), a, aPerson(), 1 + below(9));
                break;
        }
    }

    private int mayBe(int k) {
        int bits = m.may();
        for (int n = 0; n < 8; n++) {
            if ((bits >> (k + n) % 8 & 1) != 0) {
                return (k + n) % 8;
            }
        }
        return k;
    }

    private void question() {
        int k = aWrong();
        int i = aPerson();
        switch (below(20)) {
            case 0: call(9, i, below(4)); break;
            case 1: call(10, k, below(7)); break;
            case 2: call(11); break;
            case 3: call(12); break;
            case 4: call(13, k); break;
            case 5: call(14, k, -1, 0, 0); break;
            case 6: call(14, k, below(6)); break;
            case 7: call(15, k); break;
            case 8: call(16, i); break;
            case 9: call(18, k, below(3)); break;
            case 10: call(19, k); break;
            case 11: call(23, k); break;
            case 12: call(24, k); break;
            case 13: call(25, i); break;
            case 14: call(26, i); break;
            case 15: call(27, i, aPerson()); break;
            case 16:
                call(28, k, below(1 << m.wrongs()) & ~(1 << k), below(11));
                call(30, below(2));
                break;
            case 17: call(29, below(1000000), below(61)); break;
            case 18: call(odds(50) ? 34 : 33, below(11)); break;
            default: call(35); break;
        }
    }

    // ---- texts: mostly such as can be read, then with a byte changed here and there

    private void writeSomeText() {
        StringBuilder t = new StringBuilder();
        item(t, "valley");
        int people = 0;
        int most = 3 + below(13);
        for (int n = 0; n < most; n++) {
            int what = people < 2 ? 0 : below(10);
            if (what < 2) {
                item(t, "one", below(odds(95) ? 6 : 8));
                people++;
            } else if (what < 7) {
                int a = below(people);
                int b = odds(95) ? (a + 1 + below(people - 1)) % people : below(people + 1);
                item(t, "wrong", below(6), a, b, 1 + below(odds(90) ? 4 : 10));
            } else if (what < 9) {
                item(t, "days", 1 + below(odds(50) ? 99 : 9));
            } else {
                item(t, "ring", below(4));
            }
        }
        if (odds(30) && t.length() > 0) {
            String signs = " ;09az:/`{-valleyone\0\u007f1234567";
            int at = below(t.length());
            char sign = signs.charAt(below(signs.length()));
            switch (below(4)) {
                case 0: t.setLength(at); break;
                case 1: t.deleteCharAt(at); break;
                case 2: t.insert(at, sign); break;
                default: t.setCharAt(at, sign); break;
            }
        }
        if (odds(80) && t.length() > 150) {
            t.setLength(t.lastIndexOf(";", 149) + 1);
        }
        call(4);
        for (int n = 0; n < t.length(); n++) {
            call(3, t.charAt(n));
        }
    }

    private void item(StringBuilder t, String word, int... numbers) {
        blanks(t, 0);
        t.append(word);
        for (int n = 0; n < numbers.length; n++) {
            blanks(t, n == 0 ? 0 : 1);
            if (numbers[n] < 10 && odds(5)) {
                t.append('0');
            }
            t.append(numbers[n]);
        }
        blanks(t, 0);
        t.append(';');
    }

    private void blanks(StringBuilder t, int least) {
        for (int n = odds(10) ? below(3) : 0; n > 0; n--) {
            t.append(' ');
        }
        for (int n = least; n > 0; n--) {
            t.append(' ');
        }
    }

    // ---- one call on both

    private void call(int which, int... args) {
        if (calls >= CALLS) {
            return;
        }
        int p = args.length > 0 ? args[0] : 0;
        int q = args.length > 1 ? args[1] : 0;
        int r = args.length > 2 ? args[2] : 0;
        int s = args.length > 3 ? args[3] : 0;
        calls++;
        asked[which]++;
        long want = m.call(which, p, q, r, s);
        long got = answer(which, p, q, r, s);
        said.append(NAMES[which]).append('(').append(p).append(", ").append(q).append(", ").append(r)
                .append(", ").append(s).append(") ");
        Due.is(got == want ? "" : said.toString(), got, want);
        // Only where all is alike can the next answers be compared.
        if (got != want) {
            calls = CALLS;
        }
    }

    private long answer(int which, int p, int q, int r, int s) {
        switch (which) {
            case 0: return x.valley();
            case 1: return x.one(p);
            case 2: return x.wrong(p, q, r, s);
            case 3: return x.type(p);
            case 4: return x.clear();
            case 5: return x.read();
            case 6: return x.days(p);
            case 7: return x.rings(p);
            case 8: return x.undo();
            case 9: return x.of(p, q);
            case 10: return x.about(p, q);
            case 11: return x.may();
            case 12: return x.peal();
            case 13: return x.when(p);
            case 14: return x.few(p, q);
            case 15: return x.hush(p);
            case 16: return x.round(p);
            case 17: return x.seen(p, q, r, s);
            default: return answerMore(which, p, q, r, s);
        }
    }

    private long answerMore(int which, int p, int q, int r, int s) {
        switch (which) {
            case 18: return x.grave(p, q);
            case 19: return x.tell(p);
            case 20: return x.note(p, q, r, s);
            case 21: return x.mark(p, q, r, s);
            case 22: return x.forget(p);
            case 23: return x.is(p);
            case 24: return x.look(p);
            case 25: return x.kinds(p);
            case 26: return x.ask(p);
            case 27: return x.first(p, q);
            case 28: return x.rust(p, q, r);
            case 29: return x.easters(p, q);
            case 30: return x.part(p);
            case 31: return x.image(p);
            case 32: return x.from(p);
            case 33: return x.status(p);
            case 34: return x.count(p);
            default: return x.digest();
        }
    }
}
