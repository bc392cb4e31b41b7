import java.util.Map;

/** Counts and prints the answers that are not due; a test ends with finish(). */
final class Check {
    interface Call {
        Object answer();
    }

    private static int wrong = 0;
    private static int made = 0;
    private static int madeBefore = 0;
    private static String sentence = "";

    private Check() {
    }

    /**
     * Says to which sentence of the document, and of which promise, the next answers belong. One behind which
     * no answer is looked at is wrong too.
     */
    static void sentence(String text) {
        endSentence();
        sentence = text;
        madeBefore = made;
    }

    private static void endSentence() {
        if (!sentence.isEmpty() && made == madeBefore) {
            wrong("nothing was looked at");
        }
    }

    private static void wrong(String what) {
        wrong++;
        System.out.println(sentence.isEmpty() ? what : "[" + sentence + "] " + what);
    }

    /**
     * Due is the answer itself (an Integer, Long or Boolean), or the class of the exception that is due, or a map of
     * calls with such answers.
     */
    static void due(String name, Object due, Call call) {
        Object got = outcome(call);
        made++;
        if (got instanceof Map<?, ?> answers && due instanceof Map<?, ?> dues) {
            dues.forEach((key, answer) -> compare(name + ": " + key, answer, answers.get(key)));
        } else {
            compare(name, due, got);
        }
    }

    private static void compare(String name, Object due, Object got) {
        if (!due.equals(got)) {
            wrong(name + " answered " + got + ", due is " + due);
        }
    }

    static void holds(String name, boolean fact) {
        made++;
        if (!fact) {
            wrong("not so: " + name);
        }
    }

    static Object outcome(Call call) {
        try {
            return call.answer();
        } catch (RuntimeException e) {
            return e.getClass();
        }
    }

    static void finish() {
        endSentence();
        System.out.println(made + " answers looked at, " + wrong + " wrong");
        if (wrong != 0 || made == 0) {
            System.exit(1);
        }
    }
}
