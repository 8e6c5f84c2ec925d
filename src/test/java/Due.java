/** Compares answers with those that are due; a test ends with end(). */
final class Due {
    private static int right = 0;
    private static int wrong = 0;

    private Due() {
    }

    interface Act {
        void go();
    }

    static void is(String what, long got, long want) {
        tell(got == want, what + " answered " + got + ", due is " + want);
    }

    static void is(String what, boolean got, boolean want) {
        tell(got == want, what + " answered " + got + ", due is " + want);
    }

    static void is(String what, String got, String want) {
        tell(got.equals(want), what + "\n   got " + got + "\n   due " + want);
    }

    static void noDevice(String what, Act act) {
        fails(what, IndexOutOfBoundsException.class, act);
    }

    static void badArgument(String what, Act act) {
        fails(what, IllegalArgumentException.class, act);
    }

    static void badState(String what, Act act) {
        fails(what, IllegalStateException.class, act);
    }

    static void fails(String what, Class<? extends RuntimeException> want, Act act) {
        String got = outcome(act);
        tell(got.equals(want.getName()), what + " ended with " + got + ", due is " + want.getName());
    }

    private static String outcome(Act act) {
        try {
            act.go();
            return "no exception";
        } catch (RuntimeException e) {
            // the exact class: a subclass is what the machine throws by itself
            return e.getClass().getName() + (isThrownByProgram(e) ? "" : " of the machine or the library");
        }
    }

    /** Whether a throw statement of the program made it: then the program's own method is on top. */
    static boolean isThrownByProgram(RuntimeException e) {
        StackTraceElement[] trace = e.getStackTrace();
        boolean isOwn = trace.length > 0 && trace[0].getClassName().startsWith("DriverMoor");
        // the machine's own exceptions tell in their text what went wrong with which number
        return isOwn && e.getMessage() != null && !e.getMessage().startsWith("Index ");
    }

    private static void tell(boolean isRight, String text) {
        if (isRight) {
            right++;
        } else {
            wrong++;
            System.out.println(text);
        }
    }

    static void end(String test) {
        System.out.println(test + ": " + right + " as due, " + wrong + " not");
        if (wrong != 0 || right == 0) {
            System.exit(1);
        }
    }
}
