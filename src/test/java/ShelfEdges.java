/** SHELVES and the ROWS on them; then what a refused call does, and above all what it doesn't. */
final class ShelfEdges {
    /** Something of everything; SHELF 0 and 1 hold ROWS, 2 a VISITOR, 3 NOTHING; THE TAPE would be a VIEW. */
    private static final String RICH = ViewEdges.SIX + """
            visit(3)
            image() = 1
            paves(13) = 12
            mark(12, 0, 4) = 12
            mark(12, 1, 5) = 2
            visit(41)
            row(0, 2, 4) = 1
            set(0, 0, 3) = 1
            set(0, 1, -4) = 1
            set(0, 2, 6) = 1
            row(1, 3, 2) = 1
            set(1, 1, 77) = 1
            show(2, 4) = 1
            seed(99) = 1
            days(2)
            feed(100)
            feed(97)
            feed(121)
            feed(55)
            """;

    private final Edges e;

    private ShelfEdges(Edges edges) {
        e = edges;
    }

    static void tell(Edges edges) {
        ShelfEdges t = new ShelfEdges(edges);
        edges.section("WHAT COMES OF IT (nothing is changed)");
        t.shelves();
        t.sorts();
        t.elements();
        t.bits();
        edges.section("REFUSALS");
        t.nothingChanges();
        t.refusals();
    }

    /** A call that takes a SHELF for %: what it answers for the first and the last, if each holds the same. */
    private void shelf(int promise, String held, String call, String due) {
        String told = call + " = " + due + "\n";
        String bad = call + " = BAD\n";
        e.at(promise, "visitor(0, 0, 3) = 0",
                held.replace("%", "0"),
                held.replace("%", "7"),
                told.replace("%", "0"),
                told.replace("%", "7"),
                bad.replace("%", "-1"),
                bad.replace("%", "8"),
                bad.replace("%", "LOW"),
                bad.replace("%", "HIGH"));
    }

    private void shelves() {
        e.sentence("SHELVES 0 to 7 hold NOTHING (at first), a ROW, or a VISITOR.");
        e.at(1, "holds(0) = NONE", "holds(1) = NONE", "holds(6) = NONE", "holds(7) = NONE", "status(7) = 0");
        shelf(2, "", "row(%, 2, 1)", "1");
        shelf(3, "row(%, 2, 1) = 1", "set(%, 0, 5)", "1");
        shelf(4, "row(%, 2, 1) = 1", "copy(%, 0, 0, 0, 1)", "1");
        shelf(4, "row(%, 2, 1) = 1", "copy(0, %, 0, 0, 1)", "1");
        shelf(7, "row(%, 2, 1) = 1", "show(%, NONE)", "1");
        shelf(7, "", "show(%, 0)", "1");
        shelf(8, "show(%, 0) = 1", "says(%, 0)", "3");
        shelf(29, "row(%, 2, 1) = 1", "register(%, 0, 0, 2)", "21");
        shelf(30, "row(%, 2, 1) = 1", "fits(%, 0, 0, 0)", "63");
        shelf(33, "row(%, 2, 1) = 1", "picture(%, 0, 0)", "8191");
        shelf(54, "row(%, 2, 1) = 1", "judge(%, 0)", "NONE");
        shelf(55, "row(%, 2, 1) = 1", "behind(%, 0, 1)", "4");
        e.at(5, """
                row(0, 2, 1) = 1
                row(7, 2, 1) = 1
                set(0, 0, 5) = 1
                set(7, 0, 6) = 1
                element(0, 0) = 5
                element(7, 0) = 6
                element(-1, 0) = 0
                element(8, 0) = 0
                element(LOW, 0) = 0
                element(HIGH, 0) = 0
                """);
        e.at(6, """
                visitor(0, 0, 0) = 0
                row(0, 0, 0) = 1
                show(7, 0) = 1
                holds(0) = 0
                holds(7) = 10
                holds(6) = NONE
                holds(-1) = NONE
                holds(8) = NONE
                holds(LOW) = NONE
                holds(HIGH) = NONE
                """);
        e.at(61, """
                visitor(0, 0, 0) = 0
                row(0, 0, 0) = 1
                status(7) = 1
                show(7, 0) = 1
                status(7) = 2
                show(0, 0) = 1
                status(7) = 2
                row(1, 4, 40) = 1
                row(2, 4, 40) = 1
                row(3, 4, 40) = 1
                row(4, 4, 40) = 1
                row(5, 4, 40) = 1
                row(6, 4, 40) = 1
                status(7) = 8
                show(3, NONE) = 1
                show(3, NONE) = 1
                status(7) = 7
                """);
    }

    private void sorts() {
        e.sentence("A ROW has a SORT (0 bytes, 1 shorts, 2 ints, 3 longs, 4 booleans)");
        e.at(2, """
                row(0, LOW, 1) = BAD
                row(0, -1, 1) = BAD
                row(0, 5, 1) = BAD
                row(0, HIGH, 1) = BAD
                row(0, 0, 1) = 1
                row(4, 4, 1) = 1
                """);
        e.at(6, "row(0, 0, 1) = 1", "row(1, 1, 1) = 1", "row(2, 2, 1) = 1", "row(3, 3, 1) = 1", "row(4, 4, 1) = 1",
                "holds(0) = 0", "holds(1) = 1", "holds(2) = 2", "holds(3) = 3", "holds(4) = 4");
        e.at(4, """
                row(0, 0, 1) = 1
                row(1, 1, 1) = 1
                row(2, 2, 1) = 1
                row(3, 3, 1) = 1
                row(4, 4, 1) = 1
                row(5, 0, 1) = 1
                copy(0, 1, 0, 0, 1) = OTHER
                copy(1, 2, 0, 0, 1) = OTHER
                copy(2, 3, 0, 0, 1) = OTHER
                copy(3, 4, 0, 0, 1) = OTHER
                copy(4, 0, 0, 0, 1) = OTHER
                copy(0, 5, 0, 0, 1) = 1
                """);
    }

    private void elements() {
        e.sentence("and 0 to 40 elements (0, or not so, at first);");
        e.at(2, """
                row(0, 3, LOW) = BAD
                row(0, 3, -1) = BAD
                row(0, 3, 41) = BAD
                row(0, 3, HIGH) = BAD
                holds(0) = NONE
                row(0, 3, 0) = 1
                holds(0) = 3
                row(0, 3, 40) = 1
                element(0, 0) = 0
                element(0, 39) = 0
                """);
        e.at(2, """
                # a new ROW is 0 again, also beyond where the one ahead of it ended, of whatever SORT
                row(0, 3, 40) = 1
                set(0, 0, -1) = 1
                set(0, 39, -1) = 1
                row(0, 4, 1) = 1
                element(0, 0) = 0
                element(0, 39) = 0
                row(0, 2, 40) = 1
                element(0, 0) = 0
                element(0, 39) = 0
                """);
        e.at(3, """
                row(0, 3, 0) = 1
                set(0, 0, 1) = BAD
                set(0, -1, 1) = BAD
                row(0, 3, 40) = 1
                set(0, 0, 1) = 1
                set(0, 39, 1) = 1
                set(0, 40, 1) = BAD
                set(0, -1, 1) = BAD
                set(0, LOW, 1) = BAD
                set(0, HIGH, 1) = BAD
                """);
        e.at(5, """
                row(0, 3, 0) = 1
                element(0, 0) = 0
                row(0, 3, 40) = 1
                set(0, 0, 7) = 1
                set(0, 39, 8) = 1
                element(0, 0) = 7
                element(0, 39) = 8
                element(0, 40) = 0
                element(0, -1) = 0
                element(0, LOW) = 0
                element(0, HIGH) = 0
                """);
        e.at(4, """
                row(0, 3, 40) = 1
                row(1, 3, 0) = 1
                copy(0, 0, 0, 0, 40) = 40
                copy(0, 0, 0, 0, 41) = BAD
                copy(1, 1, 0, 0, 0) = 0
                copy(1, 1, 0, 0, 1) = BAD
                copy(0, 1, 40, 0, 0) = 0
                """);
        e.at(29, "row(0, 3, 39) = 1", "visitor(0, 0, 0) = 0", "register(0, 20, 0, 2) = BAD", "register(0, 19, 0, 2) = 4", "row(0, 3, 40) = 1",
                "register(0, 20, 0, 2) = 4", "row(0, 3, 1) = 1", "register(0, 1, 0, 2) = BAD", "row(0, 3, 0) = 1", "register(0, 0, 0, 2) = 21");
        e.at(30, "row(0, 3, 39) = 1", "visitor(0, 0, 20) = 0", "tell(0, 0) = 4", "fits(0, 20, 0, 0) = BAD", "fits(0, 19, 0, 0) = 0",
                "row(0, 3, 40) = 1", "fits(0, 20, 0, 0) = 0", "row(0, 3, 1) = 1", "fits(0, 1, 0, 0) = BAD", "row(0, 3, 0) = 1",
                "fits(0, 0, 0, 0) = 63");
        e.at(33, "visitor(0, 0, 20) = 0", "row(0, 3, 0) = 1", "picture(0, 0, 0) = 8191", "picture(0, 1, 0) = BAD", "row(0, 3, 11) = 1",
                "picture(0, 11, 0) = 3", "picture(0, 12, 0) = BAD");
        e.at(54, "row(0, 3, 0) = 1", "judge(0, 0) = NONE", "judge(0, 1) = BAD", "row(0, 3, 40) = 1", "judge(0, 40) = 0", "row(0, 3, 39) = 1",
                "judge(0, 40) = BAD");
        e.at(55, "row(0, 3, 0) = 1", "behind(0, 0, 1) = 4", "behind(0, 1, 1) = BAD", "row(0, 3, 40) = 1", "behind(0, 40, 1) = STUCK",
                "row(0, 3, 39) = 1", "behind(0, 40, 1) = BAD");
    }

    /** What an element of a SORT keeps of what is put in, by twos: put in, kept. */
    private void kept(int sort, String... twos) {
        StringBuilder script = new StringBuilder("row(3, " + sort + ", 40) = 1\n");
        for (int i = 0; i < twos.length; i += 2) {
            script.append("set(3, ").append(i).append(", ").append(twos[i]).append(") = 1\n");
            script.append("element(3, ").append(i).append(") = ").append(twos[i + 1]).append("\n");
        }
        e.at(3, script.toString());
        script.append("row(4, ").append(sort).append(", 40) = 1\ncopy(3, 4, 0, 0, 40) = 40\n");
        for (int i = 0; i < twos.length; i += 2) {
            script.append("element(4, ").append(i).append(") = ").append(twos[i + 1]).append("\n");
        }
        e.at(5, script.toString());
    }

    private void bits() {
        e.sentence("what is put in keeps its lowest bits, with their sign (of booleans: whether it is not 0); told they are numbers (1, 0).");
        kept(0, "127", "127", "128", "-128", "-128", "-128", "-129", "127", "255", "-1", "256", "0", "-256", "0", "0x17F", "127",
                "GREATEST", "-1", "LEAST", "0");
        kept(1, "32767", "32767", "32768", "-32768", "-32768", "-32768", "-32769", "32767", "65535", "-1", "65536", "0", "0x17FFF", "32767",
                "GREATEST", "-1", "LEAST", "0");
        kept(2, "HIGH", "HIGH", "2147483648", "LOW", "LOW", "LOW", "-2147483649", "HIGH", "4294967295", "-1", "4294967296", "0",
                "GREATEST", "-1", "LEAST", "0");
        kept(3, "GREATEST", "GREATEST", "LEAST", "LEAST", "-1", "-1", "0", "0", "4294967296", "4294967296");
        kept(4, "0", "0", "1", "1", "2", "1", "-1", "1", "256", "1", "4294967296", "1", "GREATEST", "1", "LEAST", "1");
        e.at(3, "row(0, 4, 1) = 1", "set(0, 0, 9) = 1", "element(0, 0) = 1", "set(0, 0, 0) = 1", "element(0, 0) = 0");
    }

    private void nothingChanges() {
        e.sentence("REFUSALS (the call answers the number; nothing changes but how many there were; the first that fits as each line has them):");
        String[] told = {
            "2 row(8, 0, 0) = BAD", "2 row(2, 5, 0) = BAD", "2 row(0, 2, 41) = BAD",
            "3 set(8, 0, 0) = BAD", "3 set(2, 0, 0) = OTHER", "3 set(3, 0, 0) = NOTHING", "3 set(0, 4, 0) = BAD",
            "4 copy(8, 0, 0, 0, 1) = BAD", "4 copy(0, 2, 0, 0, 1) = OTHER", "4 copy(0, 1, 0, 0, 1) = OTHER", "4 copy(0, 3, 0, 0, 1) = NOTHING",
            "4 copy(0, 0, 1, 0, 4) = BAD",
            "7 show(8, 0) = BAD", "7 show(2, 6) = BAD", "7 show(2, -2) = BAD",
            "8 says(2, 6) = BAD", "8 says(0, 0) = OTHER", "8 says(2, 3) = OTHER", "8 says(3, 0) = NOTHING",
            "9 paves(12) = BAD", "9 paves(25) = BAD", "10 visitor(0, 10, 0) = BAD", "11 wants(0, 21) = BAD", "11 wants(6, 0) = BAD",
            "12 mark(12, 0, 21) = BAD", "12 mark(13, 0, 0) = BAD", "12 mark(0, 2, 0) = BAD", "12 mark(0, 1, 10) = BAD",
            "13 tell(0, 21) = BAD", "13 tell(1, 1000) = BAD", "13 tell(2, 0) = BAD", "14 feed(256) = BAD", "14 feed(-1) = BAD",
            "17 visitorOf(6, 0) = BAD", "17 visitorOf(0, 5) = BAD", "18 cellOf(13, 0) = BAD", "18 cellOf(0, 3) = BAD",
            "19 open(0, 2) = BAD", "20 shown(0, 65) = BAD", "21 known(64) = BAD", "22 fresh(64) = BAD", "23 veilThen(0) = BAD",
            "24 send(9) = BAD", "25 fewest(8192) = BAD", "26 order(64, 0) = BAD", "26 order(3, -2) = BAD", "26 order(3, 2) = STUCK",
            "27 how(0, 13) = BAD", "28 lifted(0, 0, 2) = BAD",
            "29 register(0, 21, 0, 0) = BAD", "29 register(2, 0, 0, 0) = OTHER", "29 register(3, 0, 0, 0) = NOTHING",
            "29 register(0, 3, 0, 0) = BAD", "29 register(0, 2, 0, 0) = STUCK",
            "30 fits(0, 0, 6, 0) = BAD", "30 fits(2, 0, 0, 0) = OTHER", "30 fits(3, 0, 0, 0) = NOTHING", "30 fits(0, 3, 0, 0) = BAD",
            "33 picture(0, 25, 0) = BAD", "33 picture(2, 0, 0) = OTHER", "33 picture(3, 0, 0) = NOTHING", "33 picture(0, 5, 0) = BAD",
            "34 lift(5, 0) = BAD", "34 lift(0, 2) = BAD", "35 chance(6, 0) = BAD", "36 mean(6) = BAD", "38 best(2) = BAD", "39 mate(6) = BAD",
            "40 rarest(2) = BAD", "41 both(0, 0) = BAD", "42 visitsTill(0, 13) = BAD", "43 who(13) = BAD", "44 company(6) = BAD",
            "45 spoiler(64) = BAD", "46 split(64, 0) = BAD", "46 split(1, 2) = BAD", "48 secret(13) = BAD", "49 rank(6) = BAD",
            "50 blind(21) = BAD", "51 shyest(8192) = BAD", "52 alike(0, 6) = BAD", "53 ofKind(6) = BAD",
            "54 judge(0, 41) = BAD", "54 judge(2, 0) = OTHER", "54 judge(3, 0) = NOTHING", "54 judge(0, 5) = BAD",
            "55 behind(0, 0, 2) = BAD", "55 behind(2, 0, 0) = OTHER", "55 behind(3, 0, 0) = NOTHING", "55 behind(0, 5, 0) = BAD",
            "55 behind(0, 2, 0) = STUCK",
            "56 visit(0) = BAD", "56 visit(64) = BAD", "57 days(0) = BAD", "57 days(61) = BAD",
        };
        for (String line : told) {
            int blank = line.indexOf(' ');
            e.at(Integer.parseInt(line.substring(0, blank)), RICH, line.substring(blank + 1));
        }
        e.at(10, RICH, "2 x visitor(0, 0, 0)", "visitor(0, 0, 0) = FULL");
        e.at(14, RICH, "246 x feed(32)", "feed(32) = FULL", "status(5) = 250");
        e.at(16, RICH, "feed(120)", "view() = -24", "status(5) = 0", "status(12) = 1");
        e.at(30, RICH, "set(0, 2, 21) = 1", "fits(0, 2, 0, 0) = STUCK");
        e.at(38, "row(0, 2, 1) = 1", "paves(13) = 12", "best(0) = STUCK");
        e.at(60, "visitor(0, 0, 0) = 0", "show(0, 0) = 1", "visit(1)", "back() = STUCK");
    }

    private void refusals() {
        e.sentence("-2 BAD a number that may not be, nothing of that number.");
        e.at(61, """
                status(12) = 0
                paves(25) = BAD
                status(12) = 1
                wants(0, 0) = BAD
                status(12) = 2
                # the call that is at fault behind it, and those that are none, aren't counted
                paves(12) = 12
                status(99) = NONE
                element(8, 0) = 0
                holds(8) = NONE
                send(1) = NONE
                status(12) = 2
                reads "x" = -20
                status(12) = 3
                status(13) = 0
                status(14) = 0
                status(15) = 0
                status(16) = 0
                """);
        e.sentence("-3 OTHER: a SHELF that holds another thing than is wanted.");
        e.at(61, """
                visitor(0, 0, 0) = 0
                show(0, 0) = 1
                row(1, 0, 1) = 1
                set(0, 0, 0) = OTHER
                says(1, 0) = OTHER
                status(13) = 2
                says(0, 1) = OTHER
                status(13) = 3
                status(12) = 0
                status(14) = 0
                status(15) = 0
                status(16) = 0
                """);
        e.sentence("-4 NOTHING: a SHELF that holds NOTHING.");
        e.at(61, """
                set(0, 0, 0) = NOTHING
                says(7, 0) = NOTHING
                judge(7, 0) = NOTHING
                status(14) = 3
                status(12) = 0
                status(13) = 0
                status(15) = 0
                status(16) = 0
                """);
        e.sentence("-5 STUCK: it can't be as things stand.");
        e.at(61, """
                back() = STUCK
                best(0) = STUCK
                order(0, 0) = STUCK
                status(15) = 3
                status(12) = 0
                status(13) = 0
                status(14) = 0
                status(16) = 0
                """);
        e.sentence("-6 FULL.");
        e.at(61, """
                8 x visitor(0, 0, 0)
                visitor(0, 0, 0) = FULL
                status(16) = 1
                250 x feed(32)
                feed(32) = FULL
                feed(255) = FULL
                status(16) = 3
                status(12) = 0
                status(13) = 0
                status(14) = 0
                status(15) = 0
                """);
    }
}
