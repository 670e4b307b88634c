import java.util.ArrayList;
import java.util.Arrays;
import java.util.List;
import java.util.Map;
import java.util.Set;
import java.util.TreeSet;
import java.util.regex.Matcher;
import java.util.regex.Pattern;

/**
 * Calls told as text, a line each, with the answer that is due:
 * <pre>
 * paves(24) = 12
 * paves(25) = BAD
 * 8 x visitor(0, 0, 0)        so many times; no answer is told, but none may be refused
 * reads "veil 3; day 4" = 2   feeds the text byte by byte, then view()
 * new                         all that follows is told of a new object
 * # a remark
 * </pre>
 * Every refused call and every question (a call by which nothing changes) is looked at twice more: a new object
 * that went the same way up to it must look like one that went that way without any of them. Of several alike in a
 * row it is the last that is looked at.
 */
final class Script {
    private static final Pattern LINE = Pattern.compile("(?:(\\d+) x )?(\\w+)\\(([^)]*)\\)(?: = (\\S+))?");
    private static final Pattern READS = Pattern.compile("reads \"(.*)\" = (\\S+)");
    private static final Set<String> CHANGERS = Set.of("row", "set", "copy", "show", "paves", "visitor", "wants", "mark",
            "tell", "feed", "wipe", "view", "visit", "days", "seed", "image", "back");
    private static final Set<String> ANY_NUMBER = Set.of("element", "seed", "status");
    private static final Map<String, Long> NAMES = Map.of("NONE", -1L, "BAD", -2L, "OTHER", -3L, "NOTHING", -4L,
            "STUCK", -5L, "FULL", -6L, "LOW", (long) Integer.MIN_VALUE, "HIGH", (long) Integer.MAX_VALUE,
            "LEAST", Long.MIN_VALUE, "GREATEST", Long.MAX_VALUE);

    private static final class Line {
        String name;
        long[] numbers;
        Long due;
        String told;
        /** The answer on the first object. */
        long answer;

        boolean isRefused() {
            return answer < -1 && !ANY_NUMBER.contains(name);
        }

        boolean isQuestion() {
            return !CHANGERS.contains(name);
        }

        boolean isAs(Line other) {
            return name.equals(other.name) && Arrays.equals(numbers, other.numbers);
        }

        int refusal() {
            return name.equals("view") ? 0 : (int) (-2 - answer);
        }
    }

    private final Check c;
    private final List<List<Line>> runs = new ArrayList<>();
    private final Set<String> names = new TreeSet<>();

    Script(Check check, String text) {
        c = check;
        startRun();
        for (String line : text.split("\n")) {
            read(line.trim());
        }
    }

    /** The calls that it makes; "new", where it looks at a new object. */
    Set<String> names() {
        return names;
    }

    void play() {
        for (List<Line> run : runs) {
            Used first = new Used();
            for (Line line : run) {
                line.answer = first.ask(line.name, line.numbers);
                if (line.due != null) {
                    c.due(line.told, line.answer, line.due);
                } else {
                    c.holds(line.told + " is granted: " + line.answer, !line.isRefused());
                }
            }
            for (int i = 0; i < run.size(); i++) {
                boolean leavesAll = run.get(i).isRefused() || run.get(i).isQuestion();
                boolean isLastAlike = i + 1 == run.size() || !run.get(i + 1).isAs(run.get(i));
                if (leavesAll && isLastAlike) {
                    compare(run, i);
                }
            }
        }
    }

    /** The object with all the calls up to place, and the one without those by which nothing may change. */
    private void compare(List<Line> run, int place) {
        Used all = new Used();
        Used bare = new Used();
        long[] refusals = new long[5];
        for (int i = 0; i <= place; i++) {
            Line line = run.get(i);
            all.ask(line.name, line.numbers);
            if (line.isRefused()) {
                refusals[line.refusal()]++;
                if (line.name.equals("view")) {
                    bare.ask("wipe");
                }
            } else if (!line.isQuestion()) {
                bare.ask(line.name, line.numbers);
            }
        }
        String told = run.get(place).told;
        if (all.hasRoomFor(1)) {
            c.holds("after " + told + " there were as many REFUSALS", Arrays.equals(all.refusals(), refusals));
            c.holds(told + " changes nothing but REFUSALS", all.look().equals(bare.look()));
        }
        if (all.hasRoomFor(3)) {
            for (String name : List.of("view", "back")) {
                c.due("after " + told + ": " + name + "()", all.ask(name), bare.ask(name));
            }
            c.holds("what " + told + " leaves to come is the same", all.look().equals(bare.look()));
        }
    }

    private void startRun() {
        runs.add(new ArrayList<>());
        names.add("new");
    }

    private void read(String text) {
        if (text.isEmpty() || text.startsWith("#")) {
            return;
        }
        if (text.equals("new")) {
            startRun();
            return;
        }
        Matcher reads = READS.matcher(text);
        if (reads.matches()) {
            for (char letter : reads.group(1).toCharArray()) {
                add("feed", new long[] {letter}, null, text);
            }
            add("view", new long[0], numberOf(reads.group(2)), text);
            return;
        }
        Matcher line = LINE.matcher(text);
        if (!line.matches() || !Used.knows(line.group(2))) {
            throw new IllegalStateException("what does this line tell? " + text);
        }
        String[] told = line.group(3).isEmpty() ? new String[0] : line.group(3).split(", ");
        long[] numbers = new long[told.length];
        for (int i = 0; i < told.length; i++) {
            numbers[i] = numberOf(told[i]);
        }
        Long due = line.group(4) == null ? null : (Long) numberOf(line.group(4));
        int times = line.group(1) == null ? 1 : Integer.parseInt(line.group(1));
        for (int i = 0; i < times; i++) {
            add(line.group(2), numbers, due, text);
        }
    }

    private void add(String name, long[] numbers, Long due, String told) {
        Line line = new Line();
        line.name = name;
        line.numbers = numbers;
        line.due = due;
        line.told = told;
        runs.get(runs.size() - 1).add(line);
        names.add(name);
    }

    private static long numberOf(String told) {
        if (NAMES.containsKey(told)) {
            return NAMES.get(told);
        }
        return told.startsWith("0b") ? Long.parseLong(told.substring(2), 2) : Long.decode(told);
    }
}
