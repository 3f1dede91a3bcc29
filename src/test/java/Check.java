/** Counts what the tests of one program find, and ends the program accordingly. */
final class Check {
    /** A call that may throw. */
    interface Call {
        void run();
    }

    private static int good = 0;
    private static int wrong = 0;

    private Check() {
    }

    static void same(String what, long got, long due) {
        note(got == due, what + " answered " + got + ", due is " + due);
    }

    static void same(String what, double got, double due) {
        note(Double.compare(got, due) == 0, what + " answered " + got + ", due is " + due);
    }

    static void same(String what, boolean got, boolean due) {
        note(got == due, what + " answered " + got + ", due is " + due);
    }

    static void same(String what, String got, String due) {
        note(got.equals(due), what + " answered " + got + ", due is " + due);
    }

    static void badIndex(String what, Call call) {
        fails(what, call, IndexOutOfBoundsException.class);
    }

    static void badArgument(String what, Call call) {
        fails(what, call, IllegalArgumentException.class);
    }

    static void badState(String what, Call call) {
        fails(what, call, IllegalStateException.class);
    }

    private static void fails(String what, Call call, Class<?> due) {
        Class<?> got = null;
        try {
            call.run();
        } catch (RuntimeException thrown) {
            got = thrown.getClass();
        }
        note(got == due, what + " threw " + got + ", due is " + due);
    }

    private static void note(boolean fine, String complaint) {
        if (fine) {
            good++;
        } else {
            wrong++;
            if (wrong <= 50) {
                System.out.println(complaint);
            }
        }
    }

    static void end() {
        System.out.println(good + " answers as due, " + wrong + " not");
        if (wrong != 0 || good == 0) {
            System.exit(1);
        }
    }
}
