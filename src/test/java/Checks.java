import java.util.ArrayList;
import java.util.List;

/** Counts tests; a test is passed if all that it finds is as due. */
final class Checks {
    interface Call {
        Object answer() throws Exception;
    }

    interface Test {
        void run() throws Exception;
    }

    private final List<String> wrong = new ArrayList<>();
    private int passed;
    private int failed;

    void test(String name, Test test) {
        wrong.clear();
        try {
            test.run();
        } catch (Exception | StackOverflowError e) {
            wrong.add("the test itself threw " + e);
        }
        if (wrong.isEmpty()) {
            passed++;
            return;
        }
        failed++;
        for (String line : wrong) {
            System.out.println(name + ": " + line);
        }
    }

    void due(Object want, Object got) {
        if (!want.equals(got)) {
            wrong.add("answered " + got + ", due is " + want + at());
        }
    }

    /** The exception must be of this very class: the machine's own ones are below the documented ones. */
    void dueThrow(Class<? extends Exception> want, Call call) {
        Object got = outcome(call);
        if (!want.equals(got)) {
            wrong.add("answered " + got + ", due is a throw of " + want.getSimpleName() + at());
        }
    }

    /** What the call answers, or the class of what it throws. */
    static Object outcome(Call call) {
        try {
            return call.answer();
        } catch (Exception e) {
            return thrown(e);
        }
    }

    /** The class of what a throw statement of the program threw; the machine and its library must throw nothing. */
    static Object thrown(Throwable thrown) {
        StackTraceElement[] frames = thrown.getStackTrace();
        boolean isOwn = frames.length > 0 && frames[0].getClassName().startsWith("TicketWeaver");
        return isOwn ? thrown.getClass() : "the machine's " + thrown;
    }

    boolean isAllPassed() {
        return failed == 0;
    }

    String summary() {
        return passed + " passed, " + failed + " failed";
    }

    private static String at() {
        for (StackTraceElement frame : new Throwable().getStackTrace()) {
            if (!frame.getClassName().startsWith("Checks")) {
                return " (" + frame.getFileName() + ":" + frame.getLineNumber() + ")";
            }
        }
        return "";
    }
}
