import java.util.Objects;

/** What the tests have in common: they count what is wrong, and print it. */
final class Checks {
    private static int wrong = 0;
    private static String test = "";

    private Checks() {
    }

    /** What is wrong from here on is told behind this name. */
    static void begin(String name) {
        test = name.isEmpty() ? "" : name + ": ";
    }

    static void same(String call, Object got, Object due) {
        if (!Objects.equals(got, due)) {
            fault(call + " answered " + got + ", due is " + due);
        }
    }

    static void fault(String text) {
        wrong++;
        if (wrong <= 40) {
            System.out.println("wrong: " + test + text);
        }
    }

    static void throwsIndex(String call, Runnable run) {
        throwsOne(call, run, IndexOutOfBoundsException.class);
    }

    static void throwsArgument(String call, Runnable run) {
        throwsOne(call, run, IllegalArgumentException.class);
    }

    static void throwsState(String call, Runnable run) {
        throwsOne(call, run, IllegalStateException.class);
    }

    static void throwsOne(String call, Runnable run, Class<?> due) {
        Class<?> got = null;
        try {
            run.run();
        } catch (RuntimeException thrown) {
            got = thrown.getClass();
            ownThrow(call, thrown);
        }
        same(call + " throws", got, due);
    }

    /** The program throws by itself; what the machine or the library threw in it would have another place on top. */
    static void ownThrow(String call, RuntimeException thrown) {
        StackTraceElement[] trace = thrown.getStackTrace();
        boolean isOwn = trace.length > 0 && trace[0].getClassName().startsWith("Vatcompiler");
        if (!isOwn || thrown.getMessage() == null || thrown.getMessage().matches(".*\\d.*length.*")) {
            fault(call + " is thrown by the machine: " + thrown);
        }
    }

    static void end(String name) {
        System.out.println(name + ": " + (wrong == 0 ? "all as due" : wrong + " wrong"));
        System.exit(wrong == 0 ? 0 : 1);
    }
}
