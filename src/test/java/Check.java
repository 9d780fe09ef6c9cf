import java.util.concurrent.Callable;

/** What the tests of the project share: they print every wrong answer and end with exit code 1 if there was one. */
final class Check {
    static final Class<? extends Exception> INDEX = IndexOutOfBoundsException.class;
    static final Class<? extends Exception> ARGUMENT = IllegalArgumentException.class;
    static final Class<? extends Exception> STATE = IllegalStateException.class;

    interface Call {
        void run();
    }

    private static int wrong = 0;

    private Check() {
    }

    static void same(String what, long got, long want) {
        if (got != want) {
            fail(what + " answered " + got + ", due is " + want);
        }
    }

    static void yes(String what, boolean got) {
        if (!got) {
            fail(what + " does not hold");
        }
    }

    static void no(String what, boolean got) {
        yes("not: " + what, !got);
    }

    static void text(String what, String got, String want) {
        if (!got.equals(want)) {
            fail(what + " is " + got + ", due is " + want);
        }
    }

    /** The call throws, by a throw of the class itself, and the object looks the same before and behind it. */
    static void refuses(String what, ChannelNet net, Class<? extends Exception> want, Call call) {
        String before = Look.at(net);
        try {
            call.run();
            fail(what + " throws nothing, due is " + want);
        } catch (RuntimeException e) {
            text(what + " throws", e.getClass().getName(), want.getName());
            text(what + " throws in", e.getStackTrace()[0].getClassName(), "ChannelNet");
        }
        text(what + " leaves the object", Look.at(net), before);
    }

    static Object answer(Callable<Object> call) {
        try {
            return call.call();
        } catch (Exception e) {
            return "throws " + e.getClass().getSimpleName();
        }
    }

    static void fail(String message) {
        wrong++;
        System.out.println(message);
    }

    static boolean failed() {
        return wrong > 0;
    }

    static void end() {
        System.exit(failed() ? 1 : 0);
    }
}
