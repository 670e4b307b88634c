import java.lang.reflect.InvocationTargetException;
import java.lang.reflect.Method;
import java.util.ArrayList;
import java.util.Arrays;
import java.util.HashMap;
import java.util.List;
import java.util.Map;
import java.util.Random;
import java.util.TreeMap;

/** Long runs of drawn calls, each answer held against the one of the plain copy of the document. */
final class AgainstPlain {
    private static final int RUNS = 1200;
    /** A TAPE or a ROW is told as a whole, or not at all. */
    private static final int AT_ONCE_MOST = 120;
    /** One call of so many is followed by a look at all there is. */
    private static final int LOOKS = 60;
    private static final Map<String, Method> PLAIN = plainCalls();

    /**
     * The sorts of numbers that each call takes: s shelf, v visitor, V visitor or NONE, c cell, g group,
     * C cells, k kind, w 0 to 20, d day, a 0 to 9, 2 3 4 5 below that, t twos, e elements, n others, L any long.
     */
    private static final String[] CALLS_TOLD = {
        "row s5e", "row s5e", "set seL", "set seL", "copy sseee", "copy sseee", "element se", "holds s",
        "show sV", "show sV", "says sk", "says sk", "paves p", "visitor kaw", "visitor kaw", "wants vw", "mark c2w", "mark c2a", "tell 2w", "tell 2d", "feed b", "wipe", "view",
        "visitorOf v5", "cellOf c3", "open vg", "shown vg", "known g", "fresh g", "veilThen g", "send 8",
        "fewest C", "order gi", "how vc", "lifted vc2", "register stc3", "fits stv2", "together", "needed",
        "picture sev", "lift 52", "chance vc", "mean v", "hidden", "best 2", "mate v", "rarest 2", "both vv",
        "visitsTill vc", "who c", "company v", "spoiler g", "split g2", "couple", "secret c", "rank v",
        "blind w", "shyest C", "alike vv", "ofKind k", "judge se", "behind se2", "visit g", "days y",
        "seed n", "image", "back", "status S"
    };

    private final Random random;
    private final Used x = new Used();
    private final Plain y = new Plain();
    private final Map<String, Integer> granted;

    /** One number of so many is drawn from far outside. */
    private final int oddOf;

    private AgainstPlain(int run, Map<String, Integer> granted) {
        random = new Random(run);
        oddOf = run % 10 == 9 ? 3 : 40;
        this.granted = granted;
    }

    static void run(Check check) {
        Map<String, Integer> granted = new TreeMap<>();
        check.test("drawn runs against the plain copy", () -> {
            for (int run = 0; run < RUNS; run++) {
                new AgainstPlain(run, granted).play(check, run);
            }
        });
        check.test("drawn runs reach every call", () -> {
            for (String told : CALLS_TOLD) {
                String name = told.split(" ")[0];
                check.holds(name + " was granted often: " + granted.get(name), granted.getOrDefault(name, 0) >= 20);
            }
        });
    }

    private void play(Check check, int run) {
        while (x.hasRoomFor(1)) {
            int sort = random.nextInt(20);
            if (sort == 0 && x.hasRoomFor(AT_ONCE_MOST)) {
                tape(check, run);
            } else if (sort == 1 && x.hasRoomFor(AT_ONCE_MOST)) {
                told(check, run);
            } else {
                String[] told = CALLS_TOLD[random.nextInt(CALLS_TOLD.length)].split(" ");
                boolean rare = told[0].equals("days") || told[0].equals("visit") || told[0].equals("back");
                if (!rare || random.nextInt(4) == 0) {
                    draw(check, run, told);
                }
            }
            if (random.nextInt(LOOKS) == 0 && x.hasRoomFor(1)) {
                compareAll(check, run);
            }
        }
    }

    private void compareAll(Check check, int run) {
        check.holds("run " + run + ": both look the same", x.look().equals(Asked.look(this::plain)));
        long[] refusals = x.refusals();
        for (int i = 0; i < refusals.length; i++) {
            check.due("run " + run + ": refusals " + (-2 - i), refusals[i], y.status(12 + i));
        }
    }

    private void draw(Check check, int run, String[] told) {
        String sorts = told.length > 1 ? told[1] : "";
        long[] numbers = new long[sorts.length()];
        for (int i = 0; i < numbers.length; i++) {
            numbers[i] = number(sorts.charAt(i));
        }
        call(check, run, told[0], numbers);
    }

    private long call(Check check, int run, String name, long... numbers) {
        long got = x.ask(name, numbers);
        long want = plain(name, numbers);
        if (got != want) {
            check.due("run " + run + ": " + name + Arrays.toString(numbers), got, want);
        }
        if (got >= -1 || name.equals("element") || name.equals("seed")) {
            granted.merge(name, 1, Integer::sum);
        }
        return got;
    }

    private long plain(String name, long... numbers) {
        Method method = PLAIN.get(name);
        Object[] given = new Object[numbers.length];
        for (int i = 0; i < given.length; i++) {
            boolean isLong = method.getParameterTypes()[i] == long.class;
            given[i] = isLong ? (Object) numbers[i] : (Object) (int) numbers[i];
        }
        try {
            return ((Number) method.invoke(y, given)).longValue();
        } catch (IllegalAccessException | InvocationTargetException thrown) {
            throw new IllegalStateException(name, thrown);
        }
    }

    private static Map<String, Method> plainCalls() {
        Map<String, Method> found = new HashMap<>();
        for (Method method : Plain.class.getMethods()) {
            found.put(method.getName(), method);
        }
        return found;
    }

    private long number(char sort) {
        if (random.nextInt(oddOf) == 0) {
            int[] odd = {-1, -2, 8, 21, 24, 25, 41, 256, 1000, Integer.MAX_VALUE, Integer.MIN_VALUE};
            return odd[random.nextInt(odd.length)];
        }
        int visitors = Math.max(1, y.status(0));
        int cells = y.status(1);
        switch (sort) {
            case 's': return random.nextInt(random.nextInt(4) == 0 ? 8 : 2);
            case 'v': return random.nextInt(visitors);
            case 'V': return random.nextInt(visitors + 1) - 1;
            case 'c': return random.nextInt(cells);
            case 'g': return random.nextInt(1 << visitors);
            case 'C': return random.nextInt(1 << cells) & random.nextInt(1 << cells);
            case 'k': return random.nextInt(6);
            case 'w': return random.nextInt(21);
            case 'd': return random.nextInt(5) == 0 ? 999 : random.nextInt(1000);
            case 'a': return random.nextInt(10);
            case 'i': return random.nextInt(5) - 1;
            case 't': return random.nextInt(4);
            case 'e': return random.nextInt(8) == 0 ? random.nextInt(41) : random.nextInt(10);
            case 'p': return cells + random.nextInt(2);
            case 'b': return random.nextInt(256);
            case 'y': return 1 + random.nextInt(random.nextInt(8) == 0 ? 60 : 4);
            case 'n': return random.nextInt();
            case 'L': return random.nextBoolean() ? random.nextInt(24) : random.nextLong();
            case 'S': return random.nextInt(20) - 1;
            default: return random.nextInt(sort - '0');
        }
    }

    /** A ROW that tells something near what is so, then what is asked of it. */
    private void told(Check check, int run) {
        int s = random.nextInt(8);
        int visitors = Math.max(1, y.status(0));
        int sort = random.nextInt(8) == 0 ? random.nextInt(5) : 2 + random.nextInt(2);
        int kind = random.nextInt(4);
        int n = kind == 2 ? random.nextInt(6) : 2 * random.nextInt(5);
        int visitor = random.nextInt(visitors);
        int cell = random.nextInt(y.status(1));
        int from = random.nextInt(y.status(1));
        call(check, run, "row", s, sort, n + random.nextInt(3));
        for (int i = 0; i < n; i++) {
            long v;
            if (kind == 3) {
                v = random.nextInt(1 << visitors);
            } else if (kind == 2) {
                v = random.nextInt(10) == 0 ? random.nextInt(10) : y.cellOf(Math.min(from + i, y.status(1) - 1), 1);
            } else if (i % 2 == 0) {
                v = random.nextInt(kind == 0 ? visitors : 21);
            } else {
                v = random.nextInt(12) == 0 ? random.nextInt() : shownFor(kind, visitor, (int) y.element(s, i - 1));
            }
            call(check, run, "set", s, i, v);
        }
        for (int what = 0; what < 3; what++) {
            switch (kind) {
                case 0: call(check, run, "register", s, n / 2, cell, what); break;
                case 1: call(check, run, "fits", s, n / 2, visitor, what); break;
                case 2: call(check, run, "picture", s, n, visitor); break;
                default:
                    call(check, run, "judge", s, n);
                    call(check, run, "behind", s, n, what);
            }
        }
    }

    private long shownFor(int kind, int visitor, int told) {
        if (y.w.visitors.isEmpty()) {
            return 0;
        }
        Plain.World then = y.w.copy();
        if (kind == 1) {
            then.veil = told;
        }
        int who = kind == 0 ? Math.max(0, Math.min(then.visitors.size() - 1, told)) : visitor;
        return Plain.bits(then.alone(then.visitors.get(Math.min(who, then.visitors.size() - 1))));
    }

    private void tape(Check check, int run) {
        String[] words = {"cells", "visitor", "shy", "thing", "saw", "veil", "day"};
        String[] sorts = {"p", "kaw", "cw", "ca", "vc", "w", "d"};
        List<String> parts = new ArrayList<>();
        int statements = 1 + random.nextInt(4);
        for (int i = 0; i < statements; i++) {
            int which = random.nextInt(words.length);
            parts.add(words[which]);
            for (char sort : sorts[which].toCharArray()) {
                parts.add(Long.toString(Math.abs(number(sort))));
            }
            if (i + 1 < statements) {
                parts.add(";");
            }
        }
        if (random.nextInt(3) == 0) {
            String[] odd = {"", "x", ";", "0", "0007", "A", ((char) 200) + "", "veils", "day 3", "-", "012"};
            parts.set(random.nextInt(parts.size()), odd[random.nextInt(odd.length)]);
        }
        StringBuilder text = new StringBuilder(random.nextInt(6) == 0 ? " " : "");
        for (int i = 0; i < parts.size(); i++) {
            String blank = random.nextInt(5) == 0 ? "   " : " ";
            boolean bySign = parts.get(i).equals(";") || i + 1 < parts.size() && parts.get(i + 1).equals(";");
            boolean close = bySign && random.nextInt(3) == 0;
            text.append(parts.get(i)).append(close ? "" : blank);
        }
        for (int i = 0; i < text.length(); i++) {
            call(check, run, "feed", text.charAt(i));
        }
        call(check, run, "view");
    }
}
