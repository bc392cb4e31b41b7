/** Counts and prints the answers that are not due; a test ends with finish(). */
final class Check {
    interface Call {
        Object answer();
    }

    private static int wrong = 0;
    private static int made = 0;

    private Check() {
    }

    /** Due is the answer itself (an Integer, Long or Boolean) or the class of the exception that is due. */
    static void due(String name, Object due, Call call) {
        Object got = outcome(call);
        made++;
        if (!got.equals(due)) {
            wrong++;
            System.out.println(name + " answered " + got + ", due is " + due);
        }
    }

    static void holds(String name, boolean fact) {
        made++;
        if (!fact) {
            wrong++;
            System.out.println("not so: " + name);
        }
    }

    static Object outcome(Call call) {
        try {
            return call.answer();
        } catch (RuntimeException e) {
            return e.getClass();
        }
    }

    static void finish() {
        System.out.println(made + " answers looked at, " + wrong + " wrong");
        if (wrong != 0 || made == 0) {
            System.exit(1);
        }
    }
}
