import java.util.NoSuchElementException;

/** What tests share by extending it: a call, the answer or exception that is due, and their end. */
abstract class Checks {
    interface Call {
        int answer();
    }

    static final Class<?> BAD_ARGUMENT = IllegalArgumentException.class;
    static final Class<?> NO_FORMULA = NoSuchElementException.class;
    static final Class<?> OVERLAP = IllegalStateException.class;
    static final Class<?> TOO_MANY = IndexOutOfBoundsException.class;

    private static int wrong = 0;
    private static String part = "";

    /** What the checks from here on are about: it stands before each of their reports. */
    static void about(String text) {
        part = text;
    }

    static void due(int want, Call call) {
        try {
            int got = call.answer();
            if (got != want) {
                report("answered " + got + ", due is " + want);
            }
        } catch (RuntimeException e) {
            report("threw " + e + ", due is " + want);
        }
    }

    /** The class itself is due: one that extends it is another exception. */
    static void thrown(Class<?> want, Call call) {
        try {
            report("answered " + call.answer() + ", due is " + want.getName());
        } catch (RuntimeException e) {
            if (e.getClass() != want) {
                report("threw " + e + ", due is " + want.getName());
            }
        }
    }

    static void same(String want, String got) {
        if (!want.equals(got)) {
            report("is " + got + ", due is " + want);
        }
    }

    /** A touch as a call with an answer. */
    static int touched(HangGraph g, int r, int c) {
        g.touch(r, c);
        return 0;
    }

    static void end(String good) {
        System.out.println(wrong == 0 ? good : wrong + " answers are not as due");
        if (wrong != 0) {
            System.exit(1);
        }
    }

    private static void report(String text) {
        wrong++;
        StringBuilder lines = new StringBuilder();
        for (StackTraceElement frame : new Throwable().getStackTrace()) {
            if (!frame.getClassName().equals("Checks")) {
                lines.append(lines.length() == 0 ? "line " : " from ");
                lines.append(frame.getLineNumber());
            }
        }
        System.out.println(part + ", " + lines + ": " + text);
    }
}
