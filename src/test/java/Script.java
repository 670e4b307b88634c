import java.lang.reflect.InvocationTargetException;
import java.lang.reflect.Method;
import java.util.ArrayList;
import java.util.HashMap;
import java.util.List;
import java.util.Map;
import java.util.Set;
import java.util.TreeSet;
import java.util.regex.Matcher;
import java.util.regex.Pattern;

/**
 * Calls told as text, a line each, with the answer that is due:
 * <pre>
 * paves(24) = 12
 * paves(25) = BAD
 * 8 x visitor(0, 0, 0)        so many times; no answer is told, but none may be refused
 * reads "veil 3; day 4" = 2   feeds the text byte by byte, then view()
 * new                         all that follows is told of a new object
 * # a remark
 * </pre>
 * Every refused call and every question (a call by which nothing changes) is looked at twice more: a new object
 * that went the same way up to it must look like one that went that way without any of them.
 * No object is used for more than 512 calls.
 */
final class Script {
    private static final int CALLS_MOST = 512;
    private static final Pattern LINE = Pattern.compile("(?:(\\d+) x )?(\\w+)\\(([^)]*)\\)(?: = (\\S+))?");
    private static final Pattern READS = Pattern.compile("reads \"(.*)\" = (\\S+)");
    private static final Set<String> CHANGERS = Set.of("row", "set", "copy", "show", "paves", "visitor", "wants", "mark",
            "tell", "feed", "wipe", "view", "visit", "days", "seed", "image", "back");
    private static final Set<String> ANY_NUMBER = Set.of("element", "seed", "status");
    private static final Map<String, Long> NAMES = Map.of("NONE", -1L, "BAD", -2L, "OTHER", -3L, "NOTHING", -4L,
            "STUCK", -5L, "FULL", -6L, "LOW", (long) Integer.MIN_VALUE, "HIGH", (long) Integer.MAX_VALUE,
            "LEAST", Long.MIN_VALUE, "GREATEST", Long.MAX_VALUE);
    private static final Map<String, Method> METHODS = methods();

    private static final class Line {
        String name;
        long[] numbers;
        Long due;
        String told;
        /** The answer on the first object. */
        long answer;

        boolean isRefused() {
            return answer < -1 && !ANY_NUMBER.contains(name);
        }

        boolean isQuestion() {
            return !CHANGERS.contains(name);
        }

        int refusal() {
            return name.equals("view") ? 0 : (int) (-2 - answer);
        }
    }

    /** An object and how many calls it has been used for. */
    private static final class Used {
        final VeilsOfTheView x = new VeilsOfTheView();
        int calls;

        long call(String name, long... numbers) {
            calls++;
            Method method = METHODS.get(name);
            Object[] given = new Object[numbers.length];
            for (int i = 0; i < given.length; i++) {
                boolean isLong = method.getParameterTypes()[i] == long.class;
                given[i] = isLong ? (Object) numbers[i] : (Object) Math.toIntExact(numbers[i]);
            }
            try {
                return ((Number) method.invoke(x, given)).longValue();
            } catch (IllegalAccessException | InvocationTargetException thrown) {
                throw new IllegalStateException(name + " has thrown", thrown);
            }
        }

        boolean hasRoomFor(int more) {
            return calls + more <= CALLS_MOST;
        }
    }

    private final Check c;
    private final List<List<Line>> runs = new ArrayList<>();
    private final Set<String> names = new TreeSet<>();

    Script(Check check, String text) {
        c = check;
        startRun();
        for (String line : text.split("\n")) {
            read(line.trim());
        }
    }

    /** The calls that it makes; "new", where it looks at a new object. */
    Set<String> names() {
        return names;
    }

    void play() {
        for (List<Line> run : runs) {
            Used first = new Used();
            for (Line line : run) {
                line.answer = first.call(line.name, line.numbers);
                if (line.due != null) {
                    c.due(line.told, line.answer, line.due);
                } else {
                    c.holds(line.told + " is granted: " + line.answer, !line.isRefused());
                }
            }
            c.holds("an object is used for 512 calls at most", first.calls <= CALLS_MOST);
            for (int i = 0; i < run.size(); i++) {
                if (run.get(i).isRefused() || run.get(i).isQuestion()) {
                    compare(run, i);
                }
            }
        }
    }

    /** The object with all the calls up to place, and the one without those by which nothing may change. */
    private void compare(List<Line> run, int place) {
        Used all = new Used();
        Used bare = new Used();
        int[] refusals = new int[5];
        for (int i = 0; i <= place; i++) {
            Line line = run.get(i);
            all.call(line.name, line.numbers);
            if (line.isRefused()) {
                refusals[line.refusal()]++;
                if (line.name.equals("view")) {
                    bare.call("wipe");
                }
            } else if (!line.isQuestion()) {
                bare.call(line.name, line.numbers);
            }
        }
        String told = run.get(place).told;
        if (all.hasRoomFor(refusals.length)) {
            for (int i = 0; i < refusals.length; i++) {
                c.due("after " + told + ": status(" + (12 + i) + ")", all.call("status", 12 + i), refusals[i]);
            }
        }
        alike(told, all, bare);
        if (all.hasRoomFor(2) && bare.hasRoomFor(2)) {
            c.due("after " + told + ": view()", all.call("view"), bare.call("view"));
            c.due("after " + told + ": back()", all.call("back"), bare.call("back"));
            alike(told, all, bare);
        }
    }

    /** Where the first has no calls left, its look ends early. */
    private void alike(String told, Used all, Used bare) {
        c.holds(told + " changes nothing but REFUSALS", look(bare).startsWith(look(all)));
    }

    /** All that can be asked of it without a refusal, as far as its calls reach. */
    private static String look(Used used) {
        StringBuilder text = new StringBuilder();
        for (int what = 0; what < 8; what++) {
            ask(used, text, "status", what);
        }
        for (int s = 0; s < 8; s++) {
            long held = ask(used, text, "holds", s);
            for (int i = 0; i < 40 && held >= 0 && held <= 4; i++) {
                ask(used, text, "element", s, i);
            }
        }
        long visitors = ask(used, text, "status", 0);
        for (int visitor = 0; visitor < visitors; visitor++) {
            for (int what = 0; what < 5; what++) {
                ask(used, text, "visitorOf", visitor, what);
            }
        }
        long cells = ask(used, text, "status", 1);
        for (int cell = 0; cell < cells; cell++) {
            for (int what = 0; what < 3; what++) {
                ask(used, text, "cellOf", cell, what);
            }
        }
        return text.toString();
    }

    private static long ask(Used used, StringBuilder text, String name, long... numbers) {
        if (!used.hasRoomFor(1)) {
            return 0;
        }
        long answer = used.call(name, numbers);
        text.append(answer).append(' ');
        return answer;
    }

    private void startRun() {
        runs.add(new ArrayList<>());
        names.add("new");
    }

    private void read(String text) {
        if (text.isEmpty() || text.startsWith("#")) {
            return;
        }
        if (text.equals("new")) {
            startRun();
            return;
        }
        Matcher reads = READS.matcher(text);
        if (reads.matches()) {
            for (char letter : reads.group(1).toCharArray()) {
                add("feed", new long[] {letter}, null, text);
            }
            add("view", new long[0], numberOf(reads.group(2)), text);
            return;
        }
        Matcher line = LINE.matcher(text);
        if (!line.matches() || !METHODS.containsKey(line.group(2))) {
            throw new IllegalStateException("what does this line tell? " + text);
        }
        String[] told = line.group(3).isEmpty() ? new String[0] : line.group(3).split(", ");
        long[] numbers = new long[told.length];
        for (int i = 0; i < told.length; i++) {
            numbers[i] = numberOf(told[i]);
        }
        Long due = line.group(4) == null ? null : (Long) numberOf(line.group(4));
        int times = line.group(1) == null ? 1 : Integer.parseInt(line.group(1));
        for (int i = 0; i < times; i++) {
            add(line.group(2), numbers, due, text);
        }
    }

    private void add(String name, long[] numbers, Long due, String told) {
        Line line = new Line();
        line.name = name;
        line.numbers = numbers;
        line.due = due;
        line.told = told;
        runs.get(runs.size() - 1).add(line);
        names.add(name);
    }

    private static long numberOf(String told) {
        if (NAMES.containsKey(told)) {
            return NAMES.get(told);
        }
        return told.startsWith("0b") ? Long.parseLong(told.substring(2), 2) : Long.decode(told);
    }

    private static Map<String, Method> methods() {
        Map<String, Method> found = new HashMap<>();
        for (Method m : VeilsOfTheView.class.getMethods()) {
            if (m.getDeclaringClass() == VeilsOfTheView.class) {
                found.put(m.getName(), m);
            }
        }
        return found;
    }
}
