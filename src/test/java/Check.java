import java.util.Objects;

/** Counts the answers that are not as due, test by test, and ends a test's program by that count. */
final class Check {
    private static String test = "";
    private static int wrong = 0;
    private static int asked = 0;

    private Check() {
    }

    /** Runs one test; one that throws or asks for nothing has failed too. */
    static void test(String name, Runnable body) {
        test = name;
        int askedBefore = asked;
        int wrongBefore = wrong;
        try {
            body.run();
        } catch (RuntimeException | StackOverflowError thrown) {
            due("no call throws, and none", thrown, null);
        }
        if (asked == askedBefore) {
            due("the number of answers asked", 0, "more");
        }
        int failed = wrong - wrongBefore;
        System.out.println((failed == 0 ? "ok      " : "FAILED  ") + name + ": "
                + (asked - askedBefore) + " answers asked, " + failed + " not as due");
        test = "";
    }

    static void due(String what, Object got, Object want) {
        asked++;
        if (!Objects.equals(got, want)) {
            wrong++;
            System.out.println(test + ": " + what + " answered " + got + ", due is " + want);
        }
    }

    static int wrongSoFar() {
        return wrong;
    }

    static void end() {
        System.out.println(asked + " answers asked, " + wrong + " not as due");
        if (wrong != 0) {
            System.exit(1);
        }
    }
}
