/** Compares answers with those that are due, and counts the wrong ones. */
final class Due {
    private static final int MOST_PRINTED = 40;
    private static int checked = 0;
    private static int wrong = 0;
    private static String test = "";

    private Due() {
    }

    /** What is found wrong from here on is told under this name. */
    static void begin(String name) {
        test = name + ": ";
    }

    static void is(String call, long got, long want) {
        check(got == want, call + " answered " + got + ", due is " + want);
    }

    static void holds(String what, boolean so) {
        check(so, "it does not hold that " + what);
    }

    private static void check(boolean right, String fault) {
        checked++;
        if (!right) {
            wrong++;
            if (wrong <= MOST_PRINTED) {
                System.out.println(test + fault);
            }
        }
    }

    static int checked() {
        return checked;
    }

    static int wrong() {
        return wrong;
    }

    static void finish(String name) {
        System.out.println(name + ": " + checked + " answers looked at, " + wrong + " wrong");
        if (wrong != 0) {
            System.exit(1);
        }
    }
}
