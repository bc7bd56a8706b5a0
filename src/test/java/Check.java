import java.util.function.LongSupplier;

/** Counts wrong answers; a test ends with exit code 1 if there was one. */
final class Check {
    private static int wrong = 0;
    private static String context = "";

    private Check() {
    }

    /** What stands ahead of each text from now on. */
    static void context(String text) {
        context = text;
    }

    static void equal(String what, long got, long due) {
        if (got != due) {
            fail(what + " answered " + got + ", due is " + due);
        }
    }

    static void equal(String what, double got, double due) {
        if (got != due) {
            fail(what + " answered " + got + ", due is " + due);
        }
    }

    static void isTrue(String what, boolean holds) {
        if (!holds) {
            fail(what);
        }
    }

    /** The call must throw exactly this class, and leave the object as it was. */
    static void refused(BlossomTours land, String what, Class<? extends Exception> due, LongSupplier call) {
        long before = land.digest();
        try {
            long got = call.getAsLong();
            fail(what + " answered " + got + ", due is " + due.getSimpleName());
        } catch (RuntimeException e) {
            if (e.getClass() != due) {
                fail(what + " threw " + e.getClass().getSimpleName() + ", due is " + due.getSimpleName());
            }
        }
        equal(what + ", digest behind it", land.digest(), before);
    }

    static void fail(String text) {
        wrong++;
        if (wrong <= 50) {
            System.out.println("WRONG: " + context + text);
        }
    }

    static void end() {
        System.out.println(wrong == 0 ? "all answers are as due" : wrong + " answers are not as due");
        if (wrong != 0) {
            System.exit(1);
        }
    }
}
