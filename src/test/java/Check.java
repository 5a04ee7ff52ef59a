/** What the tests compare with: it counts, and prints what is not as it is due. */
final class Check {
    static int passed = 0;
    static int failed = 0;

    private Check() {
    }

    interface Call {
        Object answer();
    }

    static void that(String call, Object due, Object got) {
        if (String.valueOf(due).equals(String.valueOf(got))) {
            passed++;
        } else {
            failed++;
            System.out.println(call + " answered " + got + ", due is " + due);
        }
    }

    /** The simple name of what the call throws, or its answer. */
    static Object answerOf(String name, Call call) {
        try {
            return call.answer();
        } catch (RuntimeException e) {
            return "throws." + e.getClass().getSimpleName();
        }
    }

    static void throwsBy(String name, String exception, Call call) {
        that(name, "throws." + exception, answerOf(name, call));
    }

    static void badIndex(String name, Call call) {
        throwsBy(name, "IndexOutOfBoundsException", call);
    }

    static void badArgument(String name, Call call) {
        throwsBy(name, "IllegalArgumentException", call);
    }

    static void badState(String name, Call call) {
        throwsBy(name, "IllegalStateException", call);
    }

    static int closed(String test) {
        System.out.println(test + ": " + passed + " passed, " + failed + " failed");
        return failed == 0 ? 0 : 1;
    }
}
