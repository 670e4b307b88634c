import java.util.function.LongSupplier;

/** Counts tests; a test is passed if each of its answers is the one that is due. */
final class Check {
    int passed;
    int failed;
    private int wrong;

    void test(String name, Runnable body) {
        wrong = 0;
        try {
            body.run();
        } catch (RuntimeException | Error thrown) {
            wrong++;
            System.out.println("  thrown: " + thrown);
            for (int i = 0; i < Math.min(4, thrown.getStackTrace().length); i++) {
                System.out.println("    " + thrown.getStackTrace()[i]);
            }
        }
        if (wrong == 0) {
            passed++;
        } else {
            failed++;
            System.out.println("FAILED: " + name);
        }
    }

    void due(String call, long got, long want) {
        if (got != want) {
            wrong++;
            System.out.println("  " + call + " answered " + got + ", due is " + want);
        }
    }

    void holds(String what, boolean so) {
        if (!so) {
            wrong++;
            System.out.println("  not so: " + what);
        }
    }

    /** The call answers a refusal, which counts once, and nothing else changes. */
    void refused(VeilsOfTheView x, String call, long want, LongSupplier answer) {
        String ahead = stateOf(x);
        long[] counts = refusalsOf(x);
        due(call, answer.getAsLong(), want);
        for (int i = 0; i < counts.length; i++) {
            due(call + ": refusals " + (-2 - i), x.status(12 + i), counts[i] + (want == -2 - i ? 1 : 0));
        }
        holds(call + " changes nothing", ahead.equals(stateOf(x)));
    }

    /** The call answers and is no refusal. */
    void granted(VeilsOfTheView x, String call, long want, LongSupplier answer) {
        long[] counts = refusalsOf(x);
        due(call, answer.getAsLong(), want);
        for (int i = 0; i < counts.length; i++) {
            due(call + ": refusals " + (-2 - i), x.status(12 + i), counts[i]);
        }
    }

    /** The call answers, is no refusal, and changes nothing. */
    void asked(VeilsOfTheView x, String call, long want, LongSupplier answer) {
        String ahead = stateOf(x);
        granted(x, call, want, answer);
        holds(call + " changes nothing", ahead.equals(stateOf(x)));
    }

    private static long[] refusalsOf(VeilsOfTheView x) {
        long[] counts = new long[5];
        for (int i = 0; i < counts.length; i++) {
            counts[i] = x.status(12 + i);
        }
        return counts;
    }

    /** All that can be asked for without a refusal. */
    static String stateOf(VeilsOfTheView x) {
        StringBuilder text = new StringBuilder();
        for (int what = 0; what < 8; what++) {
            text.append(x.status(what)).append(' ');
        }
        for (int cell = 0; cell < x.status(1); cell++) {
            for (int what = 0; what < 3; what++) {
                text.append(x.cellOf(cell, what)).append(' ');
            }
        }
        for (int visitor = 0; visitor < x.status(0); visitor++) {
            for (int what = 0; what < 5; what++) {
                text.append(x.visitorOf(visitor, what)).append(' ');
            }
        }
        for (int s = 0; s < 8; s++) {
            text.append(x.holds(s)).append(':');
            for (int i = 0; i < 40; i++) {
                text.append(x.element(s, i)).append(' ');
            }
        }
        return text.toString();
    }
}
