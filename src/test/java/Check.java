/** Counts and prints the answers that are not as due, for one test program. */
final class Check {
    interface Call {
        void run();
    }

    private static int wrong = 0;

    private Check() {
    }

    static void due(String what, long want, long got) {
        if (got != want) {
            report(what + " answered " + got + ", due is " + want);
        }
    }

    static void due(String what, boolean want, boolean got) {
        if (got != want) {
            report(what + " answered " + got + ", due is " + want);
        }
    }

    /** The machine's own exceptions say "Index .. out of bounds": those are refused. */
    static void dueThrow(String what, Call call) {
        try {
            call.run();
            report(what + " threw nothing, due is ArrayIndexOutOfBoundsException");
        } catch (RuntimeException e) {
            if (e.getClass() != ArrayIndexOutOfBoundsException.class) {
                report(what + " threw " + e + ", due is ArrayIndexOutOfBoundsException");
            } else if (e.getMessage() != null && e.getMessage().contains("out of bounds")) {
                report(what + " was thrown by the machine, not by a throw statement: " + e.getMessage());
            }
        }
    }

    static void report(String line) {
        wrong++;
        System.out.println(line);
    }

    static void end() {
        System.out.println(wrong == 0 ? "all answers are as due" : wrong + " answers are not as due");
        if (wrong != 0) {
            System.exit(1);
        }
    }
}
