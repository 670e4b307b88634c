/** THE VIEW: the numbers of CELLS and VISITORS, and all that they have. */
final class ViewEdges {
    /** One of each KIND, numbered as the kinds are: OPEN alone is 10, 5, 7, 7, 7, 16 (VEIL 4). */
    static final String SIX = """
            visitor(0, 0, 6) = 0
            visitor(1, 0, 5) = 1
            visitor(2, 3, 12) = 2
            visitor(3, 0, 2) = 3
            visitor(4, 1, 10) = 4
            visitor(5, 0, 20) = 5
            """;

    private final Edges e;

    private ViewEdges(Edges edges) {
        e = edges;
    }

    static void tell(Edges edges) {
        ViewEdges t = new ViewEdges(edges);
        edges.section("THE VIEW");
        t.cells();
        t.manyCells();
        t.shyness();
        t.things();
        t.veil();
        t.day();
        t.visitors();
        t.manyVisitors();
        t.kinds();
        t.wants();
        t.seen();
    }

    /** A call that takes a CELL's number for %: its answers for the first, the last of 12, and the last of 24. */
    private void cell(int promise, String call, int first, int last, int lastOf24) {
        e.at(promise,
                "visitor(0, 0, 0)",
                "row(0, 2, 0)",
                call.replace("%", "LOW") + " = BAD",
                call.replace("%", "-1") + " = BAD",
                call.replace("%", "0") + " = " + first,
                call.replace("%", "11") + " = " + last,
                call.replace("%", "12") + " = BAD",
                call.replace("%", "HIGH") + " = BAD",
                "paves(24) = 12",
                call.replace("%", "23") + " = " + lastOf24,
                call.replace("%", "24") + " = BAD");
    }

    private void cells() {
        e.sentence("CELLS have numbers, 0 to n less 1");
        cell(12, "mark(%, 0, 3)", 0, 11, 20);
        cell(12, "mark(%, 1, 3)", 0, 1, 3);
        e.at(16, """
                reads "shy 0 3" = 1
                reads "shy 11 4" = 1
                reads "shy 12 5" = -24
                cellOf(0, 0) = 3
                cellOf(11, 0) = 4
                reads "cells 24;shy 23 6" = 2
                reads "shy 24 6" = -24
                cellOf(23, 0) = 6
                """);
        e.at(16, """
                reads "thing 0 3" = 1
                reads "thing 11 4" = 1
                reads "thing 12 5" = -26
                cellOf(0, 1) = 3
                cellOf(11, 1) = 4
                reads "cells 24;thing 23 6" = 2
                reads "thing 24 6" = -26
                cellOf(23, 1) = 6
                """);
        e.at(16, """
                visitor(0, 0, 0) = 0
                reads "saw 0 0" = 1
                reads "saw 0 11" = 1
                reads "saw 0 12" = -26
                visitorOf(0, 3) = 0b100000000001
                reads "cells 24;saw 0 23" = 2
                reads "saw 0 24" = -26
                visitorOf(0, 3) = 0x800801
                """);
        cell(18, "cellOf(%, 0)", 0, 11, 20);
        cell(27, "how(0, %)", 0, 0, -1);
        cell(28, "lifted(0, %, 1)", 20, 9, 0);
        cell(29, "register(0, 0, %, 2)", 21, 21, 21);
        cell(35, "chance(0, %)", 1000000, 285714, 0);
        cell(42, "visitsTill(0, %)", 1, 1, -1);
        cell(43, "who(%)", 1, 1, 0);
        cell(48, "secret(%)", -1, -1, -1);
        e.at(25, """
                visitor(5, 0, 0) = 0
                fewest(LOW) = BAD
                fewest(-1) = BAD
                fewest(0) = 0
                fewest(1) = 1
                fewest(4095) = 1
                fewest(4096) = BAD
                fewest(4097) = BAD
                fewest(HIGH) = BAD
                paves(24) = 12
                fewest(4096) = 1
                fewest(8388608) = NONE
                fewest(16777215) = NONE
                fewest(16777216) = BAD
                """);
        e.at(51, """
                shyest(LOW) = BAD
                shyest(-1) = BAD
                shyest(1) = 0
                shyest(2048) = 11
                shyest(4095) = 11
                shyest(4096) = BAD
                shyest(4097) = BAD
                shyest(HIGH) = BAD
                paves(24) = 12
                shyest(4096) = 12
                shyest(8388608) = 23
                shyest(16777215) = 20
                shyest(16777216) = BAD
                """);
        e.at(29, """
                # a CELL's bit in a ROW: the first and the last of 24
                visitor(0, 0, 0) = 0
                paves(24) = 12
                row(0, 2, 2) = 1
                set(0, 1, 0x800001) = 1
                register(0, 1, 0, 1) = 16
                register(0, 1, 0, 0) = 0
                register(0, 1, 23, 1) = 16
                register(0, 1, 23, 0) = 0
                register(0, 1, 22, 0) = 17
                register(0, 1, 22, 1) = 20
                """);
    }

    private void manyCells() {
        e.sentence("(n: 4 to 24; 12 at first)");
        e.at(1, "status(1) = 12", "cellOf(11, 0) = 11", "cellOf(12, 0) = BAD");
        e.at(9, """
                paves(LOW) = BAD
                paves(0) = BAD
                paves(3) = BAD
                paves(4) = BAD
                paves(11) = BAD
                paves(25) = BAD
                paves(HIGH) = BAD
                paves(12) = 12
                paves(24) = 12
                paves(25) = BAD
                paves(24) = 24
                status(1) = 24
                """);
        e.at(16, """
                reads "cells 3" = -26
                reads "cells 4" = -26
                reads "cells 11" = -26
                reads "cells 25" = -26
                reads "cells 12" = 1
                status(1) = 12
                reads "cells 24" = 1
                status(1) = 24
                reads "cells 25" = -26
                reads "cells 24" = 1
                """);
        e.at(61, "status(1) = 12", "paves(24) = 12", "status(1) = 24");
    }

    private void shyness() {
        e.sentence("each with SHYNESS (0 to 20; of the i-th i at first, 20 at most)");
        e.at(1, "cellOf(0, 0) = 0", "cellOf(1, 0) = 1", "cellOf(11, 0) = 11");
        String first24 = """
                cellOf(12, 0) = 12
                cellOf(19, 0) = 19
                cellOf(20, 0) = 20
                cellOf(21, 0) = 20
                cellOf(23, 0) = 20
                """;
        e.at(9, "paves(24) = 12", first24);
        e.at(16, "reads \"cells 24\" = 1", first24);
        e.at(12, """
                mark(5, 0, -1) = BAD
                mark(5, 0, LOW) = BAD
                mark(5, 0, 0) = 5
                mark(5, 0, 20) = 0
                mark(5, 0, 21) = BAD
                mark(5, 0, HIGH) = BAD
                cellOf(5, 0) = 20
                """);
        e.at(16, """
                reads "shy 5 0" = 1
                cellOf(5, 0) = 0
                reads "shy 5 20" = 1
                reads "shy 5 21" = -26
                cellOf(5, 0) = 20
                """);
        e.at(18, "mark(0, 0, 20) = 0", "cellOf(0, 0) = 20", "mark(11, 0, 0) = 11", "cellOf(11, 0) = 0");
        e.at(20, """
                # the last is shown by OPEN 20, the first by OPEN 0
                visitor(5, 0, 0) = 0
                paves(24) = 12
                tell(0, 0) = 4
                shown(0, 1) = 0xFFFFFF
                tell(0, 1) = 0
                shown(0, 1) = 0x0FFFFF
                tell(0, 20) = 1
                shown(0, 1) = 1
                mark(0, 0, 1) = 0
                shown(0, 1) = 0
                """);
        e.at(29, """
                visitor(5, 0, 0) = 0
                row(0, 2, 2) = 1
                register(0, 0, 5, 0) = 0
                register(0, 0, 5, 1) = 20
                register(0, 0, 5, 2) = 21
                # by OPEN 20 all fit that tell it shown, and none that doesn't
                tell(0, 0) = 4
                set(0, 1, 32) = 1
                register(0, 1, 5, 0) = 0
                register(0, 1, 5, 1) = 20
                register(0, 1, 5, 2) = 21
                set(0, 1, 0) = 1
                register(0, 1, 5, 0) = NONE
                register(0, 1, 5, 2) = 0
                # by OPEN 0 one fits that tells it shown, and twenty that don't
                tell(0, 20) = 0
                register(0, 1, 5, 0) = 1
                register(0, 1, 5, 1) = 20
                register(0, 1, 5, 2) = 20
                set(0, 1, 32) = 1
                register(0, 1, 5, 0) = 0
                register(0, 1, 5, 1) = 0
                register(0, 1, 5, 2) = 1
                """);
        e.at(51, "mark(11, 0, 20) = 11", "mark(3, 0, 20) = 3", "shyest(4095) = 3", "mark(0, 0, 20) = 0", "shyest(4095) = 0");
        e.at(60, """
                # CELLS that come again are as at first
                image() = 1
                paves(24) = 12
                mark(12, 0, 3) = 12
                mark(23, 0, 3) = 20
                mark(23, 1, 8) = 3
                back() = 1
                paves(24) = 12
                cellOf(23, 1) = 3
                """, first24);
    }

    private void things() {
        e.sentence("and a THING (0 to 9; of the i-th i modulo 10 at first)");
        e.at(1, "cellOf(0, 1) = 0", "cellOf(9, 1) = 9", "cellOf(10, 1) = 0", "cellOf(11, 1) = 1");
        String first24 = """
                cellOf(12, 1) = 2
                cellOf(19, 1) = 9
                cellOf(20, 1) = 0
                cellOf(23, 1) = 3
                """;
        e.at(9, "paves(24) = 12", first24);
        e.at(16, "reads \"cells 24\" = 1", first24);
        e.at(12, """
                mark(5, 1, LOW) = BAD
                mark(5, 1, -1) = BAD
                mark(5, 1, 0) = 5
                mark(5, 1, 9) = 0
                mark(5, 1, 10) = BAD
                mark(5, 1, HIGH) = BAD
                cellOf(5, 1) = 9
                """);
        e.at(16, """
                reads "thing 5 0" = 1
                cellOf(5, 1) = 0
                reads "thing 5 9" = 1
                reads "thing 5 10" = -28
                cellOf(5, 1) = 9
                """);
        e.at(18, "mark(0, 1, 9) = 0", "cellOf(0, 1) = 9", "mark(11, 1, 0) = 1", "cellOf(11, 1) = 0");
        e.at(33, """
                # a ROW may tell what no THING is: it fits no CELL that one has SEEN
                visitor(0, 0, 0) = 0
                reads "saw 0 9" = 1
                row(0, 2, 1) = 1
                set(0, 0, 9) = 1
                picture(0, 1, 0) = 0b111111111111
                set(0, 0, 10) = 1
                picture(0, 1, 0) = 0b110111111111
                set(0, 0, -1) = 1
                picture(0, 1, 0) = 0b110111111111
                """);
    }

    private void veil() {
        e.sentence("VEIL (0 to 20; 4 at first)");
        e.at(1, "status(2) = 4");
        e.at(13, """
                tell(0, LOW) = BAD
                tell(0, -1) = BAD
                tell(0, 0) = 4
                tell(0, 20) = 0
                tell(0, 21) = BAD
                tell(0, HIGH) = BAD
                status(2) = 20
                """);
        e.at(16, """
                reads "veil 0" = 1
                status(2) = 0
                reads "veil 20" = 1
                reads "veil 21" = -25
                status(2) = 20
                """);
        e.at(28, """
                # the least and the greatest that there are
                visitor(0, 0, 0) = 0
                lifted(0, 0, 0) = 0
                lifted(0, 0, 1) = 20
                paves(24) = 12
                lifted(0, 23, 0) = 0
                lifted(0, 23, 1) = 0
                """);
        e.at(30, """
                visitor(5, 0, 0) = 0
                row(0, 2, 2) = 1
                set(0, 1, 4095) = 1
                set(0, 0, -1) = 1
                fits(0, 1, 0, 0) = STUCK
                set(0, 0, 21) = 1
                fits(0, 1, 0, 0) = STUCK
                set(0, 0, 0) = 1
                fits(0, 1, 0, 0) = 0b110101
                set(0, 0, 20) = 1
                set(0, 1, 1) = 1
                fits(0, 1, 0, 0) = 0b111111
                """);
        e.at(50, """
                visitor(0, 0, 0) = 0
                mark(0, 0, 20) = 0
                blind(LOW) = BAD
                blind(-1) = BAD
                blind(0) = 0
                blind(20) = 1
                blind(21) = BAD
                blind(HIGH) = BAD
                """);
        e.at(61, "status(2) = 4", "tell(0, 0) = 4", "status(2) = 0", "tell(0, 20) = 0", "status(2) = 20");
    }

    private void day() {
        e.sentence("DAY (0 to 999; 0 at first)");
        e.at(1, "status(3) = 0");
        e.at(13, """
                tell(1, LOW) = BAD
                tell(1, -1) = BAD
                tell(1, 999) = 0
                tell(1, 1000) = BAD
                tell(1, HIGH) = BAD
                tell(1, 0) = 999
                status(3) = 0
                """);
        e.at(16, """
                reads "day 999" = 1
                status(3) = 999
                reads "day 1000" = -24
                status(3) = 999
                reads "day 0" = 1
                status(3) = 0
                """);
        e.at(61, "status(3) = 0", "tell(1, 999) = 0", "status(3) = 999");
    }

    /** A call that takes a VISITOR's number for %: its answers for the only one and for the last of eight. */
    private void visitor(int promise, String call, int first, int last) {
        e.at(promise,
                "row(0, 2, 0)",
                call.replace("%", "0") + " = BAD",
                "visitor(0, 0, 0) = 0",
                call.replace("%", "LOW") + " = BAD",
                call.replace("%", "-1") + " = BAD",
                call.replace("%", "0") + " = " + first,
                call.replace("%", "1") + " = BAD",
                call.replace("%", "HIGH") + " = BAD",
                "7 x visitor(0, 0, 0)",
                call.replace("%", "7") + " = " + last,
                call.replace("%", "8") + " = BAD");
    }

    private void visitors() {
        e.sentence("VISITORS have numbers, 0 on, 8 at most");
        visitor(11, "wants(%, 0)", 0, 0);
        visitor(17, "visitorOf(%, 0)", 0, 0);
        visitor(27, "how(%, 0)", 0, 0);
        visitor(28, "lifted(%, 0, 0)", 0, 0);
        visitor(30, "fits(0, 0, %, 0)", 63, 63);
        visitor(33, "picture(0, 0, %)", 8191, 8191);
        visitor(35, "chance(%, 0)", 1000000, 1000000);
        visitor(36, "mean(%)", 6761, 6761);
        visitor(39, "mate(%)", -1, 0);
        visitor(42, "visitsTill(%, 0)", 1, 1);
        visitor(44, "company(%)", 1, 128);
        visitor(49, "rank(%)", 0, 7);
        visitor(52, "alike(%, 0)", 1, 1);
        visitor(52, "alike(0, %)", 1, 1);
        e.at(7, """
                show(0, 0) = BAD
                show(0, -1) = 1
                visitor(0, 0, 0) = 0
                show(0, LOW) = BAD
                show(0, -2) = BAD
                show(0, 1) = BAD
                show(0, HIGH) = BAD
                show(0, 0) = 1
                7 x visitor(0, 0, 0)
                show(0, 8) = BAD
                show(0, 7) = 1
                holds(0) = 17
                """);
        e.at(10, """
                visitor(0, 0, 0) = 0
                visitor(0, 0, 0) = 1
                5 x visitor(0, 0, 0)
                visitor(0, 0, 0) = 7
                visitor(0, 0, 0) = FULL
                status(0) = 8
                """);
        e.at(16, """
                reads "visitor 0 0 0;visitor 0 0 0;visitor 0 0 0;visitor 0 0 0" = 4
                reads "visitor 0 0 0;visitor 0 0 0;visitor 0 0 0;visitor 0 0 0;visitor 0 0 0" = -76
                status(0) = 4
                reads "visitor 0 0 0;visitor 0 0 0;visitor 0 0 0;visitor 0 0 0" = 4
                reads "saw 7 0;saw 0 1" = 2
                reads "saw 8 0" = -24
                cellOf(0, 2) = 128
                cellOf(1, 2) = 1
                new
                reads "saw 0 0" = -24
                """);
        e.at(19, """
                open(0, 1) = BAD
                visitor(0, 0, 0) = 0
                open(0, 1) = 16
                open(-1, 1) = BAD
                open(1, 3) = BAD
                open(32, 1) = BAD
                7 x visitor(0, 0, 0)
                open(7, 128) = 16
                open(8, 256) = BAD
                """);
        e.at(20, """
                shown(0, 1) = BAD
                visitor(0, 0, 0) = 0
                shown(0, 1) = 4095
                shown(-1, 1) = BAD
                shown(1, 3) = BAD
                shown(32, 1) = BAD
                7 x visitor(0, 0, 0)
                shown(7, 128) = 4095
                shown(8, 256) = BAD
                """);
        e.at(29, """
                row(0, 2, 2) = 1
                register(0, 1, 0, 2) = STUCK
                visitor(0, 0, 0) = 0
                register(0, 1, 0, 2) = 4
                set(0, 0, 1) = 1
                register(0, 1, 0, 2) = STUCK
                set(0, 0, -1) = 1
                register(0, 1, 0, 2) = STUCK
                7 x visitor(0, 0, 0)
                set(0, 0, 7) = 1
                register(0, 1, 0, 2) = 4
                set(0, 0, 8) = 1
                register(0, 1, 0, 2) = STUCK
                """);
        e.at(41, """
                both(0, 1) = BAD
                visitor(0, 0, 0) = 0
                both(0, 1) = BAD
                both(1, 0) = BAD
                both(0, -1) = BAD
                both(-1, 0) = BAD
                7 x visitor(0, 0, 0)
                both(0, 7) = 0
                both(7, 0) = 0
                both(0, 8) = BAD
                both(8, 0) = BAD
                """);
        e.at(61, "status(0) = 0", "8 x visitor(0, 0, 0)", "status(0) = 8");
    }

    /** What is looked for among all VISITORS finds the last of eight, too. */
    private void manyVisitors() {
        String eight = """
                7 x visitor(0, 0, 20)
                visitor(5, 0, 0) = 7
                """;
        e.at(18, eight, "reads \"saw 7 11\" = 1", "cellOf(11, 2) = 128");
        e.at(24, eight, "send(1) = 128", "send(8) = 255", "send(7) = 191");
        e.at(25, eight, "fewest(4095) = 128");
        e.at(32, eight, "reads \"saw 7 11\" = 1", "needed() = 128");
        e.at(34, eight, "lift(1, 1) = 7", "lift(1, 0) = 3");
        e.at(37, eight, "hidden() = 0", "tell(0, 10) = 4", "hidden() = 2048");
        e.at(38, eight, "best(0) = 7", "best(1) = 12");
        e.at(39, eight, "mate(0) = 7", "mate(7) = 0");
        e.at(43, eight, "who(11) = 128", "who(0) = 255");
        e.at(44, eight, "company(0) = 129");
        e.at(45, eight, "spoiler(255) = 0", "mark(1, 0, 17) = 1", "spoiler(129) = 0");
        e.at(46, eight, "split(255, 1) = 12", "split(255, 0) = 0");
        e.at(47, eight, "reads \"saw 7 11;saw 6 10\" = 2", "couple() = 67");
        e.at(48, eight, "reads \"saw 7 11\" = 1", "secret(11) = 7");
        e.at(49, eight, "reads \"saw 7 11\" = 1", "rank(0) = 7", "rank(1) = 0", "rank(7) = 6");
        e.at(50, eight, "mark(0, 0, 1) = 0", "blind(19) = 7", "blind(20) = 8");
        e.at(53, eight, "ofKind(5) = 1", "ofKind(0) = 7");
        e.at(56, eight, "visit(128) = 4095", "visitorOf(7, 4) = 12");
    }

    private void kinds() {
        e.sentence("each of a KIND: 0 VISITOR; 1 ASKER, 2 IDLER, 5 CHILD, each under VISITOR; 3 ARTIST, under ASKER; 4 DRIVER, "
                + "under IDLER");
        e.at(10, """
                visitor(LOW, 0, 0) = BAD
                visitor(-1, 0, 0) = BAD
                visitor(6, 0, 0) = BAD
                visitor(HIGH, 0, 0) = BAD
                visitor(0, 0, 0) = 0
                visitor(5, 0, 0) = 1
                """);
        e.at(16, """
                reads "visitor 6 0 0" = -28
                reads "visitor 0 0 0;visitor 5 0 0" = 2
                visitorOf(0, 0) = 0
                visitorOf(1, 0) = 5
                """);
        e.at(17, SIX, "visitorOf(0, 0) = 0", "visitorOf(3, 0) = 3", "visitorOf(5, 0) = 5");
        e.at(53, SIX, """
                ofKind(LOW) = BAD
                ofKind(-1) = BAD
                ofKind(0) = 1
                ofKind(5) = 1
                ofKind(6) = BAD
                ofKind(HIGH) = BAD
                """);
        e.at(30, "visitor(0, 0, 0) = 0", "row(0, 0, 0) = 1", "fits(0, 0, 0, 0) = 0b111111");
        e.at(8, SIX, """
                show(0, 0) = 1
                says(0, LOW) = BAD
                says(0, -1) = BAD
                says(0, 6) = BAD
                says(0, HIGH) = BAD
                # each is one of his own KIND and of VISITOR
                says(0, 0) = 6
                says(0, 1) = OTHER
                says(0, 2) = OTHER
                says(0, 5) = OTHER
                show(1, 1) = 1
                says(1, 0) = 5
                says(1, 1) = 5
                says(1, 2) = OTHER
                says(1, 3) = OTHER
                show(2, 2) = 1
                says(2, 0) = 12
                says(2, 1) = OTHER
                says(2, 2) = 7
                says(2, 4) = OTHER
                show(5, 5) = 1
                says(5, 0) = 20
                says(5, 1) = OTHER
                says(5, 2) = OTHER
                says(5, 5) = 16
                """);
        e.at(8, SIX, """
                # under ASKER, and under IDLER
                show(3, 3) = 1
                says(3, 0) = 2
                says(3, 1) = 7
                says(3, 2) = OTHER
                says(3, 3) = 7
                says(3, 4) = OTHER
                says(3, 5) = OTHER
                show(4, 4) = 1
                says(4, 0) = 10
                says(4, 1) = OTHER
                says(4, 2) = 7
                says(4, 3) = OTHER
                says(4, 4) = 7
                says(4, 5) = OTHER
                """);
        e.sentence("a (0 to 9)");
        e.at(10, """
                visitor(0, LOW, 0) = BAD
                visitor(0, -1, 0) = BAD
                visitor(0, 10, 0) = BAD
                visitor(0, HIGH, 0) = BAD
                visitor(0, 0, 0) = 0
                visitor(0, 9, 0) = 1
                """);
        e.at(16, """
                reads "visitor 0 10 0" = -30
                reads "visitor 0 0 0;visitor 0 9 0" = 2
                visitorOf(0, 1) = 0
                visitorOf(1, 1) = 9
                """);
        e.at(17, "visitor(0, 9, 0) = 0", "visitor(0, 0, 0) = 1", "visitorOf(0, 1) = 9", "visitorOf(1, 1) = 0");
    }

    private void wants() {
        e.sentence("WANT (0 to 20)");
        e.at(10, """
                visitor(0, 0, LOW) = BAD
                visitor(0, 0, -1) = BAD
                visitor(0, 0, 21) = BAD
                visitor(0, 0, HIGH) = BAD
                visitor(0, 0, 0) = 0
                visitor(0, 0, 20) = 1
                """);
        e.at(11, """
                visitor(0, 0, 5) = 0
                wants(0, LOW) = BAD
                wants(0, -1) = BAD
                wants(0, 0) = 5
                wants(0, 20) = 0
                wants(0, 21) = BAD
                wants(0, HIGH) = BAD
                visitorOf(0, 2) = 20
                """);
        e.at(16, """
                reads "visitor 0 0 21" = -32
                reads "visitor 0 0 0;visitor 0 0 20" = 2
                visitorOf(0, 2) = 0
                visitorOf(1, 2) = 20
                """);
        e.at(17, "visitor(0, 0, 20) = 0", "visitorOf(0, 2) = 20", "wants(0, 0) = 20", "visitorOf(0, 2) = 0");
        e.at(27, """
                # the least that there is, whatever he wants now
                visitor(0, 0, 20) = 0
                how(0, 0) = 0
                how(0, 11) = 0
                """);
        e.at(30, """
                # each from 0 to 20, and none beyond
                visitor(0, 0, 0) = 0
                row(0, 2, 2) = 1
                fits(0, 0, 0, 1) = 0x1FFFFF
                set(0, 0, 20) = 1
                set(0, 1, 1) = 1
                fits(0, 1, 0, 1) = 0x1FFFFF
                # by VEIL 0: OPEN 20 less WANT
                set(0, 0, 0) = 1
                fits(0, 1, 0, 1) = 0x100000
                set(0, 1, 4095) = 1
                fits(0, 1, 0, 1) = 0b1111111111
                """);
        e.at(35, """
                # VEIL 0: CELL 20 by WANT 0 alone, CELL 0 by each of the 21
                visitor(0, 0, 7) = 0
                paves(24) = 12
                tell(0, 0) = 4
                chance(0, 20) = 47619
                chance(0, 0) = 1000000
                chance(0, 1) = 952380
                """);
        e.at(36, """
                # VEIL 0, eleven CELLS of SHYNESS 20: SHOWN by WANT 0 alone; CELL 0 by each of the 21
                visitor(0, 0, 7) = 0
                tell(0, 0) = 4
                mark(1, 0, 20) = 1
                mark(2, 0, 20) = 2
                mark(3, 0, 20) = 3
                mark(4, 0, 20) = 4
                mark(5, 0, 20) = 5
                mark(6, 0, 20) = 6
                mark(7, 0, 20) = 7
                mark(8, 0, 20) = 8
                mark(9, 0, 20) = 9
                mark(10, 0, 20) = 10
                mark(11, 0, 20) = 11
                # 21 and 11 CELLS: 32000 / 21
                mean(0) = 1523
                """);
        e.at(8, "visitor(0, 0, 20) = 0", "show(0, 0) = 1", "says(0, 0) = 20", "wants(0, 0) = 20", "says(0, 0) = 0");
    }

    private void seen() {
        e.sentence("SEEN (CELLS, bits; none at first)");
        e.at(10, "visitor(0, 0, 0) = 0", "visitorOf(0, 3) = 0", "visitorOf(0, 4) = 0", "known(1) = 0");
        e.at(16, "reads \"visitor 0 0 0\" = 1", "visitorOf(0, 3) = 0", "visitorOf(0, 4) = 0");
        e.at(17, """
                visitor(0, 0, 0) = 0
                visitorOf(0, 3) = 0
                visitorOf(0, 4) = 0
                reads "cells 24;saw 0 0;saw 0 23" = 3
                visitorOf(0, 3) = 0x800001
                visitorOf(0, 4) = 2
                new
                # all of 24
                visitor(5, 0, 0) = 0
                paves(24) = 12
                tell(0, 0) = 4
                visit(1) = 0xFFFFFF
                visitorOf(0, 3) = 0xFFFFFF
                visitorOf(0, 4) = 24
                """);
        e.at(18, "cellOf(0, 2) = 0", "visitor(0, 0, 0) = 0", "cellOf(0, 2) = 0", "reads \"saw 0 0\" = 1", "cellOf(0, 2) = 1");
        e.at(21, "8 x visitor(0, 0, 0)", "known(255) = 0", "reads \"cells 24;saw 7 23;saw 0 0\" = 3", "known(255) = 0x800001");
        e.at(60, """
                # who comes in the place of one that is gone has SEEN nothing
                image() = 1
                visitor(5, 0, 0) = 0
                visit(1) = 4095
                back() = 1
                visitor(5, 0, 0) = 0
                visitorOf(0, 3) = 0
                visitorOf(0, 4) = 0
                status(4) = 0
                """);
        e.at(61, "status(4) = 0", "visitor(0, 0, 0) = 0", "status(4) = 0", "visit(1) = 4095", "status(4) = 12");
    }
}
