/** Compares answers with those that are due, and counts both kinds. */
final class Check {
    interface Call {
        Object run();
    }

    private static int checks = 0;
    private static int wrong = 0;
    private static String topic = "";

    private Check() {
    }

    /** What the next checks are about: it is told in front of those that fail. */
    static void about(String newTopic) {
        topic = newTopic + ": ";
    }

    static void same(String call, Object due, Object got) {
        checks++;
        if (!due.equals(got)) {
            wrong++;
            System.out.println(topic + call + " answered " + got + ", due is " + due);
        }
    }

    static void fails(String call, Class<? extends RuntimeException> due, Call run) {
        same(call, due.getSimpleName(), outcome(run));
    }

    /** The answer as a text, or the simple name of the exception that was thrown. */
    static String outcome(Call run) {
        try {
            return String.valueOf(run.run());
        } catch (RuntimeException e) {
            return e.getClass().getSimpleName();
        }
    }

    static boolean isAllRight() {
        return wrong == 0;
    }

    static void end(String name) {
        System.out.println(name + ": " + checks + " checks, " + wrong + " wrong");
        System.exit(wrong == 0 && checks > 0 ? 0 : 1);
    }
}
