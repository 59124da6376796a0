/** Counts the answers that are not the ones that are due. */
final class Check {

    static final Class<? extends RuntimeException> INDEX = IndexOutOfBoundsException.class;
    static final Class<? extends RuntimeException> ARGUMENT = IllegalArgumentException.class;
    static final Class<? extends RuntimeException> STATE = IllegalStateException.class;

    private static int wrong;
    private static String test = "";

    interface Call {
        long answer();
    }

    private Check() {
    }

    /** What is told from now on is told of this test. */
    static void begin(String name) {
        test = name;
    }

    static void same(String what, long due, long got) {
        if (got != due) {
            report(what + " answered " + got + ", due is " + due);
        }
    }

    static void same(String what, double due, double got) {
        if (got != due) {
            report(what + " answered " + got + ", due is " + due);
        }
    }

    static void same(String what, Object due, Object got) {
        if (!due.equals(got)) {
            report(what + " is " + got + ", due is " + due);
        }
    }

    static void holds(String what, boolean so) {
        if (!so) {
            report(what + " does not hold");
        }
    }

    /** A refused call throws exactly this class (what the machine throws is a subclass), and changes nothing. */
    static void refuses(Class<? extends RuntimeException> due, String what, BookplateHall hall, Call call) {
        long before = hall.digest();
        try {
            report(what + " answered " + call.answer() + ", due is " + due.getName());
        } catch (RuntimeException thrown) {
            if (thrown.getClass() != due) {
                report(what + " threw " + thrown.getClass().getName() + ", due is " + due.getName());
            }
        }
        if (hall.digest() != before) {
            report(what + " changed something, though it threw");
        }
    }

    static void end(String tests) {
        System.out.println(tests + ": " + (wrong == 0 ? "all is as due" : wrong + " are not as due"));
        if (wrong != 0) {
            System.exit(1);
        }
    }

    private static void report(String line) {
        wrong++;
        System.out.println("  " + (test.isEmpty() ? "" : test + ": ") + line);
    }
}
