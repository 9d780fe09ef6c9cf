import java.util.concurrent.Callable;
import java.util.function.IntConsumer;

/** What the tests of the project share: they print every wrong answer and end with exit code 1 if there was one. */
final class Check {
    static final Class<? extends Exception> INDEX = IndexOutOfBoundsException.class;
    static final Class<? extends Exception> ARGUMENT = IllegalArgumentException.class;
    static final Class<? extends Exception> STATE = IllegalStateException.class;

    interface Call {
        void run();
    }

    private static int wrong = 0;
    private static String sentence = "";

    private Check() {
    }

    /** Runs the test of one sentence of the document; what it finds wrong is printed with the sentence. */
    static void sentence(String words, Call test) {
        sentence = words + ": ";
        try {
            test.run();
        } catch (RuntimeException e) {
            fail("the test ends with " + e);
        }
        sentence = "";
    }

    /** The numbers next to a range, and those farthest from it. */
    static int[] outside(int least, int most) {
        return new int[] {least - 1, most + 1, Integer.MIN_VALUE, Integer.MAX_VALUE};
    }

    static void same(String what, long got, long want) {
        if (got != want) {
            fail(what + " answered " + got + ", due is " + want);
        }
    }

    static void yes(String what, boolean got) {
        if (!got) {
            fail(what + " does not hold");
        }
    }

    static void no(String what, boolean got) {
        yes("not: " + what, !got);
    }

    static void text(String what, String got, String want) {
        if (!got.equals(want)) {
            fail(what + " is " + got + ", due is " + want);
        }
    }

    /** The call throws, by a throw of the class itself, and the object looks the same before and behind it. */
    static void refuses(String what, ChannelNet net, Class<? extends Exception> want, Call call) {
        String before = Look.at(net);
        try {
            call.run();
            fail(what + " throws nothing, due is " + want);
        } catch (RuntimeException e) {
            text(what + " throws", e.getClass().getName(), want.getName());
            text(what + " throws in", e.getStackTrace()[0].getClassName(), "ChannelNet");
        }
        text(what + " leaves the object", Look.at(net), before);
    }

    static void refusesEach(String what, ChannelNet net, Class<? extends Exception> want, int[] numbers,
            IntConsumer call) {
        for (int number : numbers) {
            refuses(what + " " + number, net, want, () -> call.accept(number));
        }
    }

    static Object answer(Callable<Object> call) {
        try {
            return call.call();
        } catch (Exception e) {
            return "throws " + e.getClass().getSimpleName();
        }
    }

    static void fail(String message) {
        wrong++;
        System.out.println(sentence + message);
    }

    static boolean failed() {
        return wrong > 0;
    }

    static void end() {
        System.exit(failed() ? 1 : 0);
    }
}
