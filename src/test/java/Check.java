/** Counts tests; a test fails if one of its answers is not the one that is due. */
final class Check {
    private static int passed;
    private static int failed;
    private static int wrong;

    private Check() {
    }

    static void run(String name, Runnable test) {
        wrong = 0;
        test.run();
        if (wrong == 0) {
            passed++;
        } else {
            failed++;
            System.out.println("FAILED: " + name + " (" + wrong + " wrong)");
        }
    }

    static void due(String what, long got, long due) {
        if (got != due) {
            tell(what + " answered " + got + ", due is " + due);
        }
    }

    static void same(String what, String got, String due) {
        if (!got.equals(due)) {
            tell(what + " is " + got + ", due is " + due);
        }
    }

    static void tell(String fault) {
        wrong++;
        if (wrong <= 20) {
            System.out.println("  " + fault);
        }
    }

    static void close() {
        System.out.println(passed + " passed, " + failed + " failed");
        if (failed > 0 || passed == 0) {
            System.exit(1);
        }
    }
}
