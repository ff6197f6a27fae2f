/** Counts what is as due and prints what is not. */
final class Check {
    private static int passed = 0;
    private static int failed = 0;

    private Check() {
    }

    static void same(String what, long due, long got) {
        note(due == got, what + " answered " + got + ", due is " + due);
    }

    static void sameText(String what, String due, String got) {
        note(due.equals(got), what + " answered " + got + ", due is " + due);
    }

    static void isTrue(String what, boolean got) {
        note(got, what + " is not so");
    }

    /** The very class counts: a kind of it thrown by the machine is as wrong as none. */
    static void thrown(String what, Class<? extends RuntimeException> due, Runnable call) {
        Class<?> got = null;
        try {
            call.run();
        } catch (RuntimeException e) {
            got = e.getClass();
        }
        note(got == due, what + " threw " + got + ", due is " + due);
    }

    private static void note(boolean isAsDue, String complaint) {
        if (isAsDue) {
            passed++;
        } else {
            failed++;
            System.out.println(complaint);
        }
    }

    static int count() {
        return passed + failed;
    }

    static void end(String tests) {
        System.out.println(tests + ": " + passed + " passed, " + failed + " failed");
        if (failed != 0 || passed == 0) {
            System.exit(1);
        }
    }
}
