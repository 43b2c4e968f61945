/** Counts the answers that are not as due and prints each of them. */
final class Check {
    private static int wrong = 0;
    private static int made = 0;
    private static String part = "";

    private Check() {
    }

    interface Call {
        Object answer();
    }

    static void begin(String name) {
        part = name;
    }

    static int wrongOnes() {
        return wrong;
    }

    static int all() {
        return made;
    }

    static void due(String call, Object want, Call got) {
        made++;
        Object answer = answerOf(got);
        if (!want.equals(answer)) {
            wrong++;
            System.out.println(part + ": " + call + " answered " + answer + ", due is " + want);
        }
    }

    /** The answer of a call, or throws.Name if it throws. */
    static Object answerOf(Call call) {
        try {
            return call.answer();
        } catch (RuntimeException e) {
            return "throws." + e.getClass().getSimpleName();
        }
    }
}
