import java.lang.reflect.InvocationTargetException;
import java.lang.reflect.Method;
import java.util.ArrayList;
import java.util.Comparator;
import java.util.List;
import java.util.Random;

/** No call may ever throw, whatever its numbers are and however long its object is used: LANGUAGE.md, rule 7. */
final class WildTests {
    private static final int RUNS = 12;
    private static final int CALLS = 60000;
    private static final int[] FAR = {Integer.MIN_VALUE, Integer.MIN_VALUE + 1, -256, -21, -2, -1, 9, 10, 12, 16, 19, 20,
        21, 24, 25, 31, 32, 40, 41, 60, 61, 63, 64, 128, 250, 255, 256, 999, 1000, 4095, 1 << 24, 1 << 30,
        Integer.MAX_VALUE - 1, Integer.MAX_VALUE};
    private static final String LETTERS = "cells visitor shy thing saw veil day 0123456789; 0 1 2 3;";

    private WildTests() {
    }

    static void run(Check c) {
        List<Method> calls = new ArrayList<>();
        for (Method m : VeilsOfTheView.class.getMethods()) {
            if (m.getDeclaringClass() == VeilsOfTheView.class) {
                calls.add(m);
            }
        }
        calls.sort(Comparator.comparing(Method::getName));
        c.test("no call throws", () -> {
            for (int run = 0; run < RUNS; run++) {
                play(c, calls, new Random(run), run % 2 == 0 ? 4 : 40);
            }
        });
    }

    /** One number of oddOf is far from those that may be; THE TAPE gets many bytes at once, or it would never be full. */
    private static void play(Check c, List<Method> calls, Random random, int oddOf) {
        VeilsOfTheView x = new VeilsOfTheView();
        for (int i = 0; i < CALLS; i++) {
            Method call = calls.get(random.nextInt(calls.size()));
            int times = call.getName().equals("feed") ? random.nextInt(300) : 1;
            for (int j = 0; j < times; j++) {
                try {
                    call.invoke(x, numbers(call, random, oddOf));
                } catch (IllegalAccessException | InvocationTargetException thrown) {
                    c.holds(call + " has thrown " + thrown.getCause(), false);
                }
            }
        }
    }

    private static Object[] numbers(Method call, Random random, int oddOf) {
        Object[] numbers = new Object[call.getParameterCount()];
        for (int i = 0; i < numbers.length; i++) {
            boolean isLetter = call.getName().equals("feed");
            int near = isLetter ? LETTERS.charAt(random.nextInt(LETTERS.length())) : random.nextInt(9);
            int number = random.nextInt(oddOf) == 0 ? FAR[random.nextInt(FAR.length)] : near;
            numbers[i] = call.getParameterTypes()[i] == long.class ? (Object) (long) number : (Object) number;
        }
        return numbers;
    }
}
