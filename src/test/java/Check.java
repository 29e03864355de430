import java.util.HashSet;
import java.util.Set;

/** Compares answers with what is due, and counts those that are not. */
final class Check {
    interface Call {
        long answer();
    }

    private static final Set<String> NAMES = new HashSet<>();
    private static String test = "";
    private static int checks = 0;
    private static int wrong = 0;

    private Check() {
    }

    /** A test with a name of its own, which is told with each check that fails in it. */
    static void test(String name, Runnable body) {
        if (!NAMES.add(name)) {
            fail("two tests have the name " + name);
        }
        int before = checks;
        test = name + ": ";
        try {
            body.run();
        } catch (RuntimeException e) {
            fail("ended by " + e);
        }
        if (checks == before) {
            fail("nothing was checked");
        }
        test = "";
    }

    static void due(String what, long got, long want) {
        checks++;
        if (got != want) {
            fail(what + " answered " + got + ", due is " + want);
        }
    }

    static void due(String what, boolean got, boolean want) {
        due(what, got == want);
    }

    static void due(String what, boolean holds) {
        checks++;
        if (!holds) {
            fail(what + " does not hold");
        }
    }

    /** The call must throw exactly this exception. */
    static void refuses(String what, Class<? extends RuntimeException> due, Call call) {
        checks++;
        String got = outcome(call);
        if (!got.equals(due.getName())) {
            fail(what + ": " + got + ", due is " + due.getName());
        }
    }

    /** The answer as a text, or the name of the exception. */
    static String outcome(Call call) {
        try {
            return Long.toString(call.answer());
        } catch (RuntimeException e) {
            return e.getClass().getName();
        }
    }

    static void fail(String message) {
        wrong++;
        if (wrong <= 50) {
            System.out.println(test + message);
        }
    }

    static boolean clean() {
        return wrong == 0;
    }

    static void end(String name) {
        String tests = NAMES.isEmpty() ? "" : NAMES.size() + " named tests, ";
        System.out.println(name + ": " + tests + checks + " checks, " + wrong + " not as due");
        if (wrong != 0) {
            System.exit(1);
        }
    }
}
