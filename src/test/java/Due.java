/** Compares answers with those that are due, and ends a test with exit code 1 if one was not. */
final class Due {
    private static int compared = 0;
    private static int wrong = 0;

    private Due() {
    }

    static void is(String what, int want, int got) {
        compared++;
        if (got != want) {
            wrong++;
            System.out.println(what + ": answered " + got + ", due is " + want);
        }
    }

    static void isTrue(String what, boolean holds) {
        is(what, 1, holds ? 1 : 0);
    }

    static boolean allRight() {
        return wrong == 0;
    }

    static void end() {
        System.out.println(wrong == 0 ? compared + " answers are as due" : wrong + " of " + compared + " are not as due");
        if (wrong != 0) {
            System.exit(1);
        }
    }
}
