/** Counts the answers that were looked at, and prints those that are not the due ones. */
final class Due {
    private static int checks;
    private static int wrong;
    private static String part = "";

    private Due() {
    }

    static void part(String name) {
        part = name;
    }

    static void is(String call, long got, long want) {
        checks++;
        if (got != want) {
            wrong++;
            System.out.println(part + ": " + call + " answered " + got + ", due is " + want);
        }
    }

    static void holds(String what, boolean holds) {
        checks++;
        if (!holds) {
            wrong++;
            System.out.println(part + ": " + what + " does not hold");
        }
    }

    static void end() {
        System.out.println(checks + " answers looked at, " + wrong + " not as due");
        if (wrong != 0 || checks == 0) {
            System.exit(1);
        }
    }
}
