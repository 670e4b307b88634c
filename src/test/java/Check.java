import java.util.Arrays;
import java.util.function.LongSupplier;

/** Counts tests; a test is passed if each of its answers is the one that is due. */
final class Check {
    int passed;
    int failed;
    private int wrong;

    void test(String name, Runnable body) {
        wrong = 0;
        try {
            body.run();
        } catch (RuntimeException | Error thrown) {
            wrong++;
            System.out.println("  thrown: " + thrown);
            for (int i = 0; i < Math.min(4, thrown.getStackTrace().length); i++) {
                System.out.println("    " + thrown.getStackTrace()[i]);
            }
        }
        if (wrong == 0) {
            passed++;
        } else {
            failed++;
            System.out.println("FAILED: " + name);
        }
    }

    void due(String call, long got, long want) {
        if (got != want) {
            wrong++;
            System.out.println("  " + call + " answered " + got + ", due is " + want);
        }
    }

    void holds(String what, boolean so) {
        if (!so) {
            wrong++;
            System.out.println("  not so: " + what);
        }
    }

    /** The call answers a refusal, which counts once, and nothing else changes. */
    void refused(Face x, String call, long want, LongSupplier answer) {
        String ahead = Used.behind(x).look();
        long[] counts = Used.behind(x).refusals();
        due(call, answer.getAsLong(), want);
        long[] then = Used.behind(x).refusals();
        for (int i = 0; i < counts.length; i++) {
            due(call + ": refusals " + (-2 - i), then[i], counts[i] + (want == -2 - i ? 1 : 0));
        }
        holds(call + " changes nothing", ahead.equals(Used.behind(x).look()));
    }

    /** The call answers and is no refusal. */
    void granted(Face x, String call, long want, LongSupplier answer) {
        long[] counts = Used.behind(x).refusals();
        due(call, answer.getAsLong(), want);
        holds(call + " is no refusal", Arrays.equals(counts, Used.behind(x).refusals()));
    }

    /** The call answers, is no refusal, and changes nothing. */
    void asked(Face x, String call, long want, LongSupplier answer) {
        String ahead = Used.behind(x).look();
        granted(x, call, want, answer);
        holds(call + " changes nothing", ahead.equals(Used.behind(x).look()));
    }
}
