/** The promises' own sentences, from Promise 1 to Promise 61, in their order. */
final class PromiseEdges {
    private static final String SIX = ViewEdges.SIX;

    private final Edges e;

    private PromiseEdges(Edges edges) {
        e = edges;
    }

    static void tell(Edges edges) {
        PromiseEdges t = new PromiseEdges(edges);
        t.shelves();
        t.holding();
        t.making();
        t.tape();
        t.asking();
        t.groups();
        t.sending();
        t.seeing();
        t.telling();
        t.drawing();
        t.best();
        t.pairs();
        t.parting();
        t.counting();
        t.logs();
        t.inTruth();
        t.images();
    }

    private void shelves() {
        e.promise(1);
        e.edge("12 CELLS, no VISITORS; SHELVES hold NOTHING; THE TAPE is empty.", """
                status(0) = 0
                status(1) = 12
                status(2) = 4
                status(3) = 0
                status(4) = 0
                status(5) = 0
                status(6) = 1
                status(7) = 0
                status(12) = 0
                status(13) = 0
                status(14) = 0
                status(15) = 0
                status(16) = 0
                holds(0) = NONE
                holds(7) = NONE
                view() = -20
                back() = STUCK
                """);
        e.promise(2);
        e.edge("SHELF s holds a new ROW: 1.", """
                visitor(0, 0, 0) = 0
                show(0, 0) = 1
                # where a VISITOR was, and where a ROW was: of the same SORT, too
                row(0, 3, 2) = 1
                holds(0) = 3
                set(0, 0, 5) = 1
                row(0, 3, 2) = 1
                element(0, 0) = 0
                row(0, 0, 0) = 1
                holds(0) = 0
                status(7) = 1
                """);
        e.edge("BAD.", """
                row(0, 3, 2) = 1
                set(0, 1, 9) = 1
                row(-1, 0, 0) = BAD
                row(8, 0, 0) = BAD
                row(0, -1, 0) = BAD
                row(0, 5, 0) = BAD
                row(0, 0, -1) = BAD
                row(0, 0, 41) = BAD
                row(8, 5, 41) = BAD
                element(0, 1) = 9
                holds(0) = 3
                status(12) = 7
                """);
        e.promise(3);
        e.edge("Element i of the ROW in SHELF s becomes v: 1.", """
                row(0, 3, 3) = 1
                set(0, 0, 5) = 1
                set(0, 2, 6) = 1
                set(0, 2, 7) = 1
                element(0, 0) = 5
                element(0, 1) = 0
                element(0, 2) = 7
                """);
        e.edge("BAD SHELF; OTHER; NOTHING; BAD i.", """
                visitor(0, 0, 0) = 0
                show(0, 0) = 1
                row(1, 2, 3) = 1
                set(-1, -1, 0) = BAD
                set(8, 0, 0) = BAD
                set(0, 0, 0) = OTHER
                set(0, -1, 0) = OTHER
                set(0, 40, 0) = OTHER
                set(2, 0, 0) = NOTHING
                set(2, -1, 0) = NOTHING
                set(2, 40, 0) = NOTHING
                set(1, -1, 0) = BAD
                set(1, 3, 0) = BAD
                set(1, 2, 0) = 1
                status(12) = 4
                status(13) = 3
                status(14) = 3
                """);
        e.promise(4);
        e.edge("n elements of the ROW in SHELF p from place i on come to places j on of that in q (as they were): n.", """
                row(0, 3, 4) = 1
                set(0, 0, 1) = 1
                set(0, 1, 2) = 1
                set(0, 2, 3) = 1
                set(0, 3, 4) = 1
                row(1, 3, 2) = 1
                # none of them; from and to the very end
                copy(0, 1, 0, 0, 0) = 0
                copy(0, 1, 4, 2, 0) = 0
                element(1, 0) = 0
                copy(0, 1, 3, 1, 1) = 1
                element(1, 1) = 4
                copy(0, 1, 2, 0, 2) = 2
                element(1, 0) = 3
                # as they were: upwards and downwards in the same ROW
                copy(0, 0, 0, 1, 3) = 3
                element(0, 0) = 1
                element(0, 1) = 1
                element(0, 2) = 2
                element(0, 3) = 3
                copy(0, 0, 1, 0, 3) = 3
                element(0, 0) = 1
                element(0, 1) = 2
                element(0, 2) = 3
                element(0, 3) = 3
                """);
        e.edge("BAD SHELVES; OTHER (also ROWS of two SORTS, if both hold something); NOTHING; BAD the others.", """
                visitor(0, 0, 0) = 0
                show(0, 0) = 1
                row(1, 2, 3) = 1
                row(2, 3, 3) = 1
                row(4, 2, 2) = 1
                # SHELVES ahead of OTHER and NOTHING
                copy(-1, 0, 0, 0, 1) = BAD
                copy(0, -1, 0, 0, 1) = BAD
                copy(8, 3, 0, 0, 1) = BAD
                copy(3, 8, 0, 0, 1) = BAD
                # OTHER ahead of NOTHING and of the others
                copy(0, 3, -1, 0, 1) = OTHER
                copy(3, 0, -1, 0, 1) = OTHER
                copy(0, 1, 0, 0, 1) = OTHER
                copy(1, 0, 0, 0, 1) = OTHER
                copy(0, 0, 0, 0, 0) = OTHER
                copy(1, 2, -1, 0, 1) = OTHER
                copy(2, 1, 0, 0, 0) = OTHER
                # NOTHING ahead of the others; a SORT alone is no OTHER
                copy(3, 1, -1, 0, 1) = NOTHING
                copy(1, 3, 0, -1, 1) = NOTHING
                copy(2, 3, 0, 0, 99) = NOTHING
                copy(3, 3, 0, 0, 0) = NOTHING
                # the others
                copy(1, 4, -1, 0, 1) = BAD
                copy(1, 4, 0, -1, 1) = BAD
                copy(1, 4, 0, 0, -1) = BAD
                copy(1, 4, 0, 0, 3) = BAD
                copy(4, 1, 0, 0, 3) = BAD
                copy(1, 4, 2, 0, 2) = BAD
                copy(1, 4, 0, 1, 2) = BAD
                copy(1, 4, 4, 0, 0) = BAD
                copy(1, 4, 0, 3, 0) = BAD
                copy(1, 4, HIGH, 0, HIGH) = BAD
                copy(1, 4, HIGH, HIGH, 2) = BAD
                copy(1, 4, 1, 1, LOW) = BAD
                copy(1, 4, LOW, 0, 1) = BAD
                copy(1, 4, 1, 0, 2) = 2
                """);
    }

    private void holding() {
        e.promise(5);
        e.edge("Element i of the ROW;", "row(0, 3, 2) = 1", "set(0, 0, -2) = 1", "set(0, 1, LEAST) = 1", "element(0, 0) = -2",
                "element(0, 1) = LEAST");
        e.edge("0: none, no ROW (nothing is refused).", """
                visitor(0, 0, 0) = 0
                show(0, 0) = 1
                row(1, 3, 2) = 1
                set(1, 1, 9) = 1
                element(0, 0) = 0
                element(2, 0) = 0
                element(-1, 0) = 0
                element(8, 0) = 0
                element(1, -1) = 0
                element(1, 2) = 0
                element(1, 40) = 0
                element(1, HIGH) = 0
                element(HIGH, LOW) = 0
                status(12) = 0
                status(13) = 0
                status(14) = 0
                """);
        e.promise(6);
        e.edge("What SHELF s holds: NONE NOTHING, no SHELF;", "holds(0) = NONE", "holds(7) = NONE", "holds(-1) = NONE", "holds(8) = NONE",
                "row(0, 0, 0) = 1", "show(0, NONE) = 1", "holds(0) = NONE", "status(12) = 0");
        e.edge("0 to 4 a ROW by its SORT;", "row(0, 0, 0) = 1", "holds(0) = 0", "row(0, 4, 40) = 1", "holds(0) = 4");
        e.edge("10 and the number of a VISITOR.", "8 x visitor(0, 0, 0)", "show(0, 0) = 1", "holds(0) = 10", "show(0, 7) = 1", "holds(0) = 17");
        e.promise(7);
        e.edge("SHELF s holds a VISITOR, or NOTHING (visitor NONE): 1.", """
                show(0, NONE) = 1
                status(7) = 0
                row(0, 3, 3) = 1
                show(0, NONE) = 1
                holds(0) = NONE
                element(0, 0) = 0
                visitor(0, 0, 0) = 0
                row(0, 3, 3) = 1
                show(0, 0) = 1
                holds(0) = 10
                # one VISITOR in two SHELVES
                show(7, 0) = 1
                status(7) = 2
                """);
        e.edge("BAD.", """
                show(0, 0) = BAD
                show(-1, NONE) = BAD
                show(8, NONE) = BAD
                show(0, -2) = BAD
                visitor(0, 0, 0) = 0
                row(0, 3, 3) = 1
                show(0, 1) = BAD
                show(8, 1) = BAD
                holds(0) = 3
                status(12) = 6
                """);
        e.promise(8);
        e.edge("What the VISITOR in SHELF s, taken for one of a KIND, says: VISITOR his WANT; ASKER, ARTIST, IDLER, DRIVER, CHILD "
                + "how OPEN it is to him alone, by his own KIND.", """
                visitor(3, 0, 0) = 0
                visitor(4, 9, 0) = 1
                visitor(5, 0, 0) = 2
                reads "saw 0 0;saw 0 1" = 2
                show(0, 0) = 1
                show(1, 1) = 1
                show(2, 2) = 1
                # by his own KIND: an ARTIST taken for an ASKER says 8 less 2
                says(0, 0) = 0
                says(0, 1) = 6
                says(0, 3) = 6
                # alone: no 5 more, and 20 at most
                says(1, 2) = 20
                tell(0, 20) = 4
                says(1, 2) = 9
                says(1, 4) = 9
                says(0, 1) = 0
                says(2, 5) = 0
                says(2, 0) = 0
                """);
        e.edge("BAD SHELF, KIND; OTHER (also if he is of no such KIND nor of one under it); NOTHING.", """
                visitor(1, 0, 5) = 0
                show(0, 0) = 1
                row(1, 0, 0) = 1
                says(-1, 0) = BAD
                says(8, 6) = BAD
                says(1, -1) = BAD
                says(1, 6) = BAD
                says(2, 6) = BAD
                says(0, 6) = BAD
                says(1, 0) = OTHER
                says(0, 3) = OTHER
                says(0, 2) = OTHER
                says(0, 5) = OTHER
                says(2, 0) = NOTHING
                says(0, 0) = 5
                says(0, 1) = 5
                """);
    }

    private void making() {
        e.promise(9);
        e.edge("There are n CELLS: how many there were.", "paves(12) = 12", "paves(13) = 12", "paves(24) = 13", "paves(24) = 24");
        e.edge("BAD: also fewer than there are.", "paves(11) = BAD", "paves(13) = 12", "paves(12) = BAD", "paves(25) = BAD", "paves(24) = 13",
                "paves(23) = BAD", "paves(LOW) = BAD", "status(1) = 24");
        e.promise(10);
        e.edge("A VISITOR: the number.", "visitor(5, 9, 20) = 0", "6 x visitor(0, 0, 0)", "visitor(5, 9, 20) = 7");
        e.edge("BAD; FULL.", """
                visitor(6, 0, 0) = BAD
                7 x visitor(0, 0, 0)
                visitor(0, 10, 0) = BAD
                visitor(0, 0, 0) = 7
                visitor(0, 0, 0) = FULL
                visitor(5, 9, 20) = FULL
                visitor(-1, 0, 0) = BAD
                visitor(6, 0, 0) = BAD
                visitor(0, -1, 0) = BAD
                visitor(0, 10, 0) = BAD
                visitor(0, 0, -1) = BAD
                visitor(0, 0, 21) = BAD
                """);
        e.promise(11);
        e.edge("WANT of one becomes v: what it was.", "visitor(0, 0, 0) = 0", "visitor(0, 0, 20) = 1", "wants(0, 20) = 0", "wants(1, 0) = 20",
                "wants(0, 20) = 20", "visitorOf(0, 2) = 20", "visitorOf(1, 2) = 0");
        e.edge("BAD.", "wants(0, 0) = BAD", "visitor(0, 0, 3) = 0", "wants(-1, 0) = BAD", "wants(1, 0) = BAD", "wants(0, -1) = BAD",
                "wants(0, 21) = BAD", "visitorOf(0, 2) = 3");
        e.promise(12);
        e.edge("SHYNESS (what 0), THING (1) of a CELL becomes v: what it was.", "mark(11, 0, 20) = 11", "mark(11, 1, 9) = 1",
                "mark(11, 0, 0) = 20", "mark(11, 1, 0) = 9", "cellOf(11, 0) = 0", "cellOf(11, 1) = 0");
        e.edge("BAD.", """
                mark(-1, 0, 0) = BAD
                mark(12, 0, 0) = BAD
                mark(0, -1, 0) = BAD
                mark(0, 2, 0) = BAD
                mark(0, LOW, 0) = BAD
                mark(0, HIGH, 0) = BAD
                mark(0, 0, -1) = BAD
                mark(0, 0, 21) = BAD
                mark(0, 1, -1) = BAD
                mark(0, 1, 10) = BAD
                mark(0, 1, 20) = BAD
                mark(0, 0, 20) = 0
                """);
        e.promise(13);
        e.edge("VEIL (what 0), DAY (1) becomes v: what it was.", "tell(0, 20) = 4", "tell(1, 999) = 0", "tell(0, 0) = 20", "tell(1, 0) = 999");
        e.edge("BAD.", """
                tell(-1, 0) = BAD
                tell(2, 0) = BAD
                tell(LOW, 0) = BAD
                tell(HIGH, 0) = BAD
                tell(0, -1) = BAD
                tell(0, 21) = BAD
                tell(0, 999) = BAD
                tell(1, -1) = BAD
                tell(1, 1000) = BAD
                tell(1, 21) = 0
                """);
    }

    private void tape() {
        e.promise(14);
        e.edge("THE TAPE gets one byte (0 to 255) behind it: its size.", """
                feed(0) = 1
                feed(255) = 2
                # behind it: the fault is in the second place
                wipe() = 2
                feed(32) = 1
                feed(0) = 2
                view() = -21
                feed(32) = 1
                feed(255) = 2
                view() = -21
                """);
        e.edge("BAD; FULL.", """
                feed(-1) = BAD
                feed(256) = BAD
                250 x feed(32)
                feed(32) = FULL
                feed(0) = FULL
                feed(255) = FULL
                feed(256) = BAD
                feed(-1) = BAD
                status(5) = 250
                """);
        e.promise(15);
        e.edge("THE TAPE is empty: its size ahead.", "wipe() = 0", "feed(120) = 1", "wipe() = 1", "wipe() = 0", "view() = -20",
                "250 x feed(32)", "wipe() = 250", "feed(32) = 1");
        e.promise(16);
        e.edge("THE TAPE is a VIEW: how many STATEMENTS;", "reads \"day 1\" = 1", "reads \"day 1;day 2;day 3\" = 3", "status(3) = 3",
                "reads \"" + "day1;".repeat(49) + "day4\" = 50", "status(3) = 4");
        e.edge("-20 less the FAULT (that is refused, too: BAD).", """
                view() = -20
                status(12) = 1
                reads "day 1000" = -24
                status(12) = 2
                reads "day 999" = 1
                status(12) = 2
                # what there is no room for is BAD, too
                8 x visitor(0, 0, 0)
                reads "visitor 0 0 0" = -20
                status(12) = 3
                status(16) = 0
                """);
        e.edge("THE TAPE is empty then, either way.", "reads \"day 1\" = 1", "status(5) = 0", "feed(32) = 1", "wipe() = 1",
                "reads \"day x\" = -24", "status(5) = 0", "feed(32) = 1", "view() = -21", "status(5) = 0", "view() = -20", "status(5) = 0");
    }

    private void asking() {
        e.promise(17);
        e.edge("Of a VISITOR: KIND (0), a (1), WANT (2), SEEN (3), how many CELLS he has SEEN (4).", """
                visitor(5, 9, 20) = 0
                visitorOf(0, 0) = 5
                visitorOf(0, 1) = 9
                visitorOf(0, 2) = 20
                visitorOf(0, 3) = 0
                visitorOf(0, 4) = 0
                visit(1) = 4095
                visitorOf(0, 3) = 4095
                visitorOf(0, 4) = 12
                """);
        e.edge("BAD.", """
                visitorOf(0, 0) = BAD
                visitor(5, 9, 20) = 0
                visitorOf(-1, 0) = BAD
                visitorOf(1, 0) = BAD
                visitorOf(0, -1) = BAD
                visitorOf(0, 5) = BAD
                visitorOf(0, LOW) = BAD
                visitorOf(0, HIGH) = BAD
                """);
        e.promise(18);
        e.edge("Of a CELL: SHYNESS (0), THING (1), by which VISITORS it was SEEN (2; bits).", """
                cellOf(11, 0) = 11
                cellOf(11, 1) = 1
                cellOf(11, 2) = 0
                8 x visitor(0, 0, 0)
                reads "saw 0 11;saw 7 11" = 2
                cellOf(11, 2) = 129
                visit(255) = 2047
                cellOf(0, 2) = 255
                """);
        e.edge("BAD.", "cellOf(-1, 0) = BAD", "cellOf(12, 0) = BAD", "cellOf(0, -1) = BAD", "cellOf(0, 3) = BAD", "cellOf(0, LOW) = BAD",
                "cellOf(0, HIGH) = BAD");
    }

    /** What is no GROUP of six VISITORS, told for % in the call. */
    private static String badGroups(String call) {
        StringBuilder script = new StringBuilder(SIX);
        for (String group : new String[] {"64", "65", "127", "-1", "LOW", "HIGH", "-2147483647"}) {
            script.append(call.replace("%", group)).append(" = BAD\n");
        }
        return script.toString();
    }

    /** Among six: nobody, others than he, one who isn't there, and numbers by which a shift would wrap around. */
    private static String badInGroups(String call) {
        return """
                CALL(0, 0) = BAD
                CALL(0, 2) = BAD
                CALL(0, 62) = BAD
                CALL(5, 31) = BAD
                CALL(6, 64) = BAD
                CALL(6, 1) = BAD
                CALL(-1, 1) = BAD
                CALL(31, LOW) = BAD
                CALL(32, 1) = BAD
                """.replace("CALL", call);
    }

    private void groups() {
        e.promise(19);
        e.edge("OPEN to one in a GROUP (he is in it).", SIX, "open(0, 1) = 10", "open(5, 32) = 16", "open(0, 63) = 7", "open(5, 63) = 12");
        e.edge("BAD: also a GROUP he isn't in, or with one who isn't there.", badGroups("open(0, %)"), badInGroups("open"));
        e.promise(20);
        e.edge("SHOWN to one in a GROUP likewise.", SIX, "shown(0, 1) = 2047", "shown(5, 32) = 4095", "shown(0, 63) = 255");
        e.edge("BAD likewise.", badGroups("shown(0, %)"), badInGroups("shown"));
        e.promise(21);
        e.edge("KNOWN of told VISITORS.", "known(0) = 0", SIX, "known(0) = 0", "known(63) = 0", "visit(32) = 4095", "known(32) = 4095",
                "known(31) = 0", "known(63) = 4095");
        e.edge("BAD: also one who isn't there.", "known(1) = BAD", badGroups("known(%)"), "known(63) = 0");
        e.promise(22);
        e.edge("NEW of a GROUP (0: nobody).", "fresh(0) = 0", SIX, "fresh(0) = 0", "fresh(1) = 2047", "fresh(63) = 4095");
        e.edge("BAD likewise.", "fresh(1) = BAD", badGroups("fresh(%)"), "fresh(63) = 4095");
        e.promise(23);
        e.edge("VEIL behind a VISIT of a GROUP.", SIX, "veilThen(1) = 4", "veilThen(2) = 5", "veilThen(32) = 3", "veilThen(63) = 5",
                "status(2) = 4");
        e.edge("BAD likewise, also nobody.", "veilThen(0) = BAD", "veilThen(1) = BAD", badGroups("veilThen(%)"), "veilThen(0) = BAD",
                "veilThen(63) = 5");
    }

    private void sending() {
        e.promise(24);
        e.edge("SEND k; NONE.", SIX, "send(1) = 32", "send(6) = 63", "send(7) = NONE", "send(8) = NONE");
        e.edge("BAD. (NONE isn't refused.)", "send(0) = BAD", "send(9) = BAD", "send(-1) = BAD", "status(12) = 3", "send(1) = NONE",
                "send(8) = NONE", "status(12) = 3");
        e.promise(25);
        e.edge("FEWEST for told CELLS (bits); NONE.", SIX, "fewest(0) = 0", "fewest(1) = 1", "fewest(4095) = 32", "mark(11, 0, 20) = 11",
                "fewest(2048) = NONE", "fewest(2047) = 1");
        e.edge("BAD: also CELLS that aren't there. (NONE isn't refused.)", "fewest(4096) = BAD", "fewest(4097) = BAD", "fewest(-1) = BAD",
                "fewest(LOW) = BAD", "fewest(HIGH) = BAD", "status(12) = 5", "fewest(1) = NONE", "fewest(4095) = NONE", "status(12) = 5");
        e.promise(26);
        e.edge("ORDER of told VISITORS: how many CELLS (i NONE), the i-th.", SIX, "order(0, NONE) = 0", "order(1, NONE) = 11", "order(1, 0) = 0",
                "order(63, NONE) = 12", "order(63, 0) = 0", "order(63, 5) = 5", "order(32, 0) = 5");
        e.edge("BAD: also one who isn't there, more than 6, i below NONE; STUCK: no i-th.", """
                order(1, NONE) = BAD
                order(0, -2) = BAD
                order(0, LOW) = BAD
                order(0, 0) = STUCK
                order(0, HIGH) = STUCK
                7 x visitor(0, 0, 0)
                order(63, 5) = 5
                order(63, 6) = STUCK
                order(1, 1) = STUCK
                order(126, 5) = 6
                order(127, NONE) = BAD
                order(127, 7) = BAD
                order(127, -2) = BAD
                order(128, NONE) = BAD
                order(128, 9) = BAD
                order(-1, 0) = BAD
                order(LOW, 9) = BAD
                order(3, -2) = BAD
                order(3, 1) = 1
                order(3, 2) = STUCK
                """);
        e.promise(27);
        e.edge("HOW to see: the least WANT; NONE.", "visitor(0, 0, 20) = 0", "how(0, 11) = 0", "mark(11, 0, 17) = 11", "how(0, 11) = NONE",
                "mark(11, 0, 16) = 17", "how(0, 11) = 0");
        e.edge("BAD. (NONE isn't refused.)", "how(0, 0) = BAD", "visitor(0, 0, 0) = 0", "how(-1, 0) = BAD", "how(1, 0) = BAD", "how(0, -1) = BAD",
                "how(0, 12) = BAD", "mark(0, 0, 20) = 0", "how(0, 0) = NONE", "status(12) = 5");
        e.promise(28);
        e.edge("LIFTED: the least VEIL (what 0), the greatest (1) by which a CELL is SHOWN to one alone; NONE.", "visitor(0, 0, 0) = 0",
                "lifted(0, 11, 0) = 0", "lifted(0, 11, 1) = 9", "wants(0, 20) = 0", "lifted(0, 11, 0) = NONE", "lifted(0, 11, 1) = NONE");
        e.edge("BAD. (NONE isn't refused.)", """
                lifted(0, 0, 0) = BAD
                visitor(0, 0, 20) = 0
                lifted(-1, 0, 0) = BAD
                lifted(1, 0, 0) = BAD
                lifted(0, -1, 0) = BAD
                lifted(0, 12, 0) = BAD
                lifted(0, 0, -1) = BAD
                lifted(0, 0, 2) = BAD
                lifted(0, 0, HIGH) = BAD
                lifted(0, 11, 0) = NONE
                status(12) = 8
                """);
    }

    /** The refusals of a call on a ROW, in their order: #s the SHELF, #n how many; the rest is as it may be. */
    private static String rowRefusals(String call, int most, int places) {
        StringBuilder script = new StringBuilder("visitor(0, 0, 0) = 0\nshow(0, 0) = 1\nrow(1, 2, " + places * 2 + ") = 1\n");
        String[] told = {
            "-1 0 BAD", "8 0 BAD", "LOW -1 BAD", "HIGH 99 BAD",
            "1 -1 BAD", "1 " + (most + 1) + " BAD", "1 LOW BAD", "1 HIGH BAD",
            "0 -1 BAD", "0 " + (most + 1) + " BAD", "2 -1 BAD", "2 " + (most + 1) + " BAD",
            "0 0 OTHER", "0 " + most + " OTHER", "2 0 NOTHING", "2 " + most + " NOTHING",
            "1 3 BAD", "1 " + most + " BAD"
        };
        for (String line : told) {
            String[] parts = line.split(" ");
            script.append(call.replace("#s", parts[0]).replace("#n", parts[1])).append(" = ").append(parts[2]).append("\n");
        }
        return script.toString();
    }

    private void seeing() {
        e.promise(29);
        e.edge("REGISTER by the first n twos (0 to 20) of the ROW in SHELF s: the least SHYNESS of a CELL (what 0; NONE), the greatest (1; NONE), "
                + "how many (2).", """
                visitor(0, 0, 0) = 0
                visitor(0, 0, 1) = 1
                row(0, 2, 40) = 1
                register(0, 0, 0, 0) = 0
                register(0, 0, 0, 1) = 20
                register(0, 0, 0, 2) = 21
                register(0, 20, 0, 0) = 17
                register(0, 20, 0, 1) = 20
                register(0, 20, 0, 2) = 4
                # what stands behind the first n doesn't matter, be it no VISITOR
                set(0, 2, 8) = 1
                register(0, 1, 0, 0) = 17
                set(0, 2, 1) = 1
                set(0, 3, 1) = 1
                register(0, 2, 0, 0) = NONE
                register(0, 2, 0, 1) = NONE
                register(0, 2, 0, 2) = 0
                """);
        String order29 = "BAD SHELF, n, cell, what; OTHER; NOTHING; BAD: fewer elements; STUCK: no such VISITOR. (NONE isn't refused.)";
        e.edge(order29, rowRefusals("register(#s, #n, 0, 0)", 20, 2), """
                register(0, 0, -1, 0) = BAD
                register(2, 0, 12, 0) = BAD
                register(1, 3, 12, 0) = BAD
                register(0, 0, 0, -1) = BAD
                register(2, 0, 0, 3) = BAD
                register(1, 3, 0, 3) = BAD
                # fewer elements ahead of no such VISITOR
                set(1, 0, 9) = 1
                register(1, 3, 0, 0) = BAD
                register(1, 2, 0, 0) = STUCK
                register(1, 1, 0, 0) = STUCK
                register(1, 0, 0, 0) = 0
                set(1, 0, 0) = 1
                set(1, 2, 1) = 1
                register(1, 2, 0, 0) = STUCK
                register(1, 1, 0, 0) = 17
                set(1, 2, -1) = 1
                register(1, 2, 0, 0) = STUCK
                """);
        e.at(29, """
                # a long that is a VISITOR's number in its lowest bits alone; and NONE, which isn't refused
                visitor(0, 0, 0) = 0
                row(0, 3, 4) = 1
                set(0, 0, 4294967296) = 1
                register(0, 1, 0, 0) = STUCK
                set(0, 0, LEAST) = 1
                register(0, 1, 0, 0) = STUCK
                set(0, 0, 0) = 1
                set(0, 1, 1) = 1
                register(0, 2, 0, 0) = NONE
                register(0, 2, 0, 1) = NONE
                status(12) = 0
                status(15) = 2
                """);
        e.promise(30);
        e.edge("KINDS (what 0), WANTS (1) of one by the first n twos (0 to 20) of the ROW in SHELF s.", """
                visitor(5, 0, 0) = 0
                row(0, 2, 40) = 1
                fits(0, 0, 0, 0) = 63
                fits(0, 0, 0, 1) = 0x1FFFFF
                fits(0, 20, 0, 0) = 0
                fits(0, 20, 0, 1) = 0
                set(0, 1, 4095) = 1
                fits(0, 1, 0, 0) = 0b110101
                fits(0, 1, 0, 1) = 0x1FFFFF
                set(0, 2, 21) = 1
                fits(0, 1, 0, 0) = 0b110101
                """);
        e.edge("BAD SHELF, n, visitor, what; OTHER; NOTHING; BAD: fewer elements; STUCK: no VEIL.", rowRefusals("fits(#s, #n, 0, 0)", 20, 2), """
                fits(0, 0, -1, 0) = BAD
                fits(2, 0, 1, 0) = BAD
                fits(1, 3, 1, 0) = BAD
                fits(0, 0, 0, -1) = BAD
                fits(2, 0, 0, 2) = BAD
                fits(1, 3, 0, 2) = BAD
                # fewer elements ahead of no VEIL
                set(1, 0, 21) = 1
                fits(1, 3, 0, 0) = BAD
                fits(1, 2, 0, 0) = STUCK
                fits(1, 1, 0, 1) = STUCK
                fits(1, 0, 0, 0) = 63
                set(1, 0, 20) = 1
                set(1, 2, -1) = 1
                fits(1, 2, 0, 0) = STUCK
                fits(1, 1, 0, 0) = 0
                set(1, 2, 20) = 1
                fits(1, 2, 0, 0) = 0
                """);
        e.at(30, """
                # a long that is a VEIL in its lowest bits alone
                visitor(0, 0, 0) = 0
                row(0, 3, 2) = 1
                set(0, 0, 4294967300) = 1
                fits(0, 1, 0, 0) = STUCK
                set(0, 0, LEAST) = 1
                fits(0, 1, 0, 0) = STUCK
                """);
    }

    private void telling() {
        e.promise(31);
        e.edge("TOLD together; NONE. (NONE isn't refused.)", "together() = NONE", "visitor(5, 0, 0) = 0", "together() = NONE", "visit(1) = 4095",
                "together() = 1", "7 x visitor(5, 0, 0)", "together() = 8", "status(12) = 0", "status(15) = 0");
        e.promise(32);
        e.edge("NEEDED (bits).", "needed() = 0", "8 x visitor(5, 0, 0)", "needed() = 0", "visit(128) = 4095", "needed() = 128", "visit(1) = 0",
                "needed() = 0");
        e.promise(33);
        e.edge("FITS a picture for one, by the first n elements (0 to 24) of the ROW in SHELF s: SHIFTS (bits).", """
                visitor(0, 0, 0) = 0
                paves(24) = 12
                row(0, 2, 25) = 1
                picture(0, 0, 0) = 0x1FFFFFF
                picture(0, 24, 0) = 1
                reads "saw 0 23" = 1
                picture(0, 24, 0) = 0
                set(0, 23, 3) = 1
                picture(0, 24, 0) = 1
                # what stands behind the first n doesn't matter
                set(0, 24, 9) = 1
                picture(0, 24, 0) = 1
                picture(0, 25, 0) = BAD
                """);
        e.edge("BAD SHELF, n, visitor; OTHER; NOTHING; BAD: fewer elements.", rowRefusals("picture(#s, #n, 0)", 24, 1), """
                picture(0, 0, -1) = BAD
                picture(2, 0, 1) = BAD
                picture(1, 3, 1) = BAD
                picture(1, 2, 0) = 2047
                """);
        e.promise(34);
        e.edge("LIFT by turns: VEIL (what 0), whom (1; NONE).", "lift(0, 0) = 4", "lift(0, 1) = NONE", "lift(4, 0) = 4", "lift(4, 1) = NONE",
                SIX, "lift(0, 0) = 4", "lift(0, 1) = NONE", "lift(1, 0) = 3", "lift(1, 1) = 5", "lift(4, 0) = 5", "lift(4, 1) = 0");
        e.edge("BAD. (NONE isn't refused.)", "lift(-1, 0) = BAD", "lift(5, 0) = BAD", "lift(0, -1) = BAD", "lift(0, 2) = BAD", "lift(LOW, 0) = BAD",
                "lift(4, HIGH) = BAD", "status(12) = 6", "lift(0, 1) = NONE", "lift(4, 1) = NONE", "status(12) = 6");
    }

    private void drawing() {
        e.promise(35);
        e.edge("CHANCE.", "visitor(0, 0, 0) = 0", "chance(0, 0) = 1000000", "mark(0, 0, 20) = 0", "chance(0, 0) = 0");
        e.edge("BAD.", "chance(0, 0) = BAD", "visitor(0, 0, 0) = 0", "chance(-1, 0) = BAD", "chance(1, 0) = BAD", "chance(0, -1) = BAD",
                "chance(0, 12) = BAD");
        e.promise(36);
        e.edge("MEAN.", "visitor(5, 0, 0) = 0", "mean(0) = 12000", "tell(0, 20) = 4", "mean(0) = 1000", "mark(0, 0, 1) = 0", "mean(0) = 0");
        e.edge("BAD.", "mean(0) = BAD", "visitor(0, 0, 0) = 0", "mean(-1) = BAD", "mean(1) = BAD", "mean(LOW) = BAD", "mean(HIGH) = BAD");
        e.promise(37);
        e.edge("CELLS (bits) SHOWN to nobody alone, as things are.", """
                hidden() = 4095
                paves(24) = 12
                hidden() = 0xFFFFFF
                visitor(5, 0, 0) = 0
                hidden() = 0xFE0000
                # alone: two CHILDREN together would see one CELL more
                visitor(5, 0, 0) = 1
                hidden() = 0xFE0000
                tell(0, 0) = 4
                hidden() = 0
                tell(0, 20) = 0
                hidden() = 0xFFFFFE
                """);
    }

    private void best() {
        e.promise(38);
        e.edge("The VISITOR to whom most CELLS are SHOWN alone (what 0), how many (1), of several the first.", """
                visitor(0, 0, 10) = 0
                best(0) = 0
                best(1) = 7
                visitor(0, 0, 9) = 1
                visitor(0, 0, 9) = 2
                best(0) = 1
                best(1) = 8
                # nothing is SHOWN to anybody: the first
                mark(0, 0, 1) = 0
                tell(0, 20) = 4
                best(0) = 0
                best(1) = 0
                """);
        e.edge("BAD; STUCK: no VISITORS.", "best(2) = BAD", "best(-1) = BAD", "best(0) = STUCK", "best(1) = STUCK", "visitor(0, 0, 0) = 0",
                "best(0) = 0", "best(2) = BAD", "best(LOW) = BAD", "best(HIGH) = BAD");
        e.promise(39);
        e.edge("With whom one sees most: the other VISITOR in a GROUP of two by whom most CELLS are SHOWN to him, of several the first; "
                + "NONE: nobody else is there.", """
                visitor(0, 0, 10) = 0
                mate(0) = NONE
                visitor(1, 0, 20) = 1
                mate(0) = 1
                mate(1) = 0
                visitor(0, 0, 20) = 2
                visitor(2, 0, 20) = 3
                mate(0) = 2
                mate(2) = 0
                # nothing is SHOWN to him with anybody: the first
                mark(0, 0, 20) = 0
                tell(0, 20) = 4
                mate(3) = 0
                mate(0) = 1
                """);
        e.edge("BAD. (NONE isn't refused.)", "mate(0) = BAD", "visitor(0, 0, 0) = 0", "mate(-1) = BAD", "mate(1) = BAD", "mate(0) = NONE",
                "status(12) = 3");
        e.promise(40);
        e.edge("The CELL fewest VISITORS have SEEN (what 0), most (1), of several the first.", """
                rarest(0) = 0
                rarest(1) = 0
                visitor(0, 0, 0) = 0
                visitor(0, 0, 0) = 1
                reads "saw 0 0;saw 0 1;saw 1 1;saw 0 2;saw 1 2" = 5
                rarest(0) = 3
                rarest(1) = 1
                # the last CELL alone
                reads "saw 0 3;saw 0 4;saw 0 5;saw 0 6;saw 0 7;saw 0 8;saw 0 9;saw 0 10" = 8
                rarest(0) = 11
                paves(24) = 12
                rarest(0) = 11
                new
                # each CELL that is there is SEEN by somebody, and by all
                visitor(5, 0, 0) = 0
                visit(1) = 4095
                rarest(0) = 0
                rarest(1) = 0
                paves(13) = 12
                rarest(0) = 12
                rarest(1) = 0
                """);
        e.edge("BAD.", "rarest(-1) = BAD", "rarest(2) = BAD", "rarest(LOW) = BAD", "rarest(HIGH) = BAD");
    }

    private void pairs() {
        e.promise(41);
        e.edge("How many CELLS two VISITORS have SEEN both.", "visitor(5, 0, 0) = 0", "visitor(5, 0, 0) = 1", "both(0, 1) = 0", "visit(1) = 4095",
                "both(0, 1) = 0", "reads \"saw 1 11\" = 1", "both(0, 1) = 1", "both(1, 0) = 1", "visit(2) = 0", "both(0, 1) = 12");
        e.edge("BAD: also the same.", "both(0, 0) = BAD", "visitor(0, 0, 0) = 0", "both(0, 0) = BAD", "both(0, 1) = BAD", "both(1, 0) = BAD",
                "both(0, -1) = BAD", "both(-1, 0) = BAD", "visitor(0, 0, 0) = 1", "both(0, 0) = BAD", "both(1, 1) = BAD", "both(2, 2) = BAD",
                "both(0, 1) = 0");
        e.promise(42);
        e.edge("How many VISITS, one alone each time (0 to 60), till he has SEEN a CELL (what he has SEEN now counts: 0); NONE.", """
                visitor(0, 0, 0) = 0
                visitsTill(0, 11) = 1
                reads "saw 0 11" = 1
                visitsTill(0, 11) = 0
                mark(10, 0, 17) = 10
                visitsTill(0, 10) = NONE
                # the most that there can be: by VEIL 20 a CHILD lifts it twenty times
                visitor(5, 0, 0) = 1
                tell(0, 20) = 4
                mark(9, 0, 20) = 9
                visitsTill(1, 9) = 21
                visitsTill(1, 0) = 1
                # an ARTIST shuts it by what he sees
                tell(0, 0) = 20
                visitor(3, 0, 0) = 2
                visitsTill(2, 8) = 1
                visitsTill(2, 11) = NONE
                status(2) = 0
                status(3) = 0
                status(4) = 1
                """);
        e.edge("BAD. (NONE isn't refused.)", "visitsTill(0, 0) = BAD", "visitor(0, 0, 20) = 0", "visitsTill(-1, 0) = BAD", "visitsTill(1, 0) = BAD",
                "visitsTill(0, -1) = BAD", "visitsTill(0, 12) = BAD", "visitsTill(0, 11) = NONE", "status(12) = 5");
        e.promise(43);
        e.edge("VISITORS (bits) to whom, alone, a CELL is SHOWN.", "who(0) = 0", "8 x visitor(5, 0, 0)", "who(0) = 255", "mark(0, 0, 17) = 0",
                "who(0) = 0", "tell(0, 3) = 4", "who(0) = 255");
        e.edge("BAD.", "who(-1) = BAD", "who(12) = BAD", "who(LOW) = BAD", "who(HIGH) = BAD");
        e.promise(44);
        e.edge("The GROUP with one in it by which most CELLS are SHOWN to him, of several the least as bits.", """
                visitor(0, 0, 10) = 0
                company(0) = 1
                visitor(5, 0, 0) = 1
                visitor(5, 0, 0) = 2
                company(0) = 7
                # two are as good as one, where there is no more to see
                wants(0, 5) = 10
                company(0) = 1
                wants(0, 6) = 5
                company(0) = 3
                # nothing is SHOWN to him with anybody: he alone
                mark(0, 0, 20) = 0
                tell(0, 20) = 4
                mark(1, 0, 20) = 1
                mark(2, 0, 20) = 2
                company(0) = 1
                company(2) = 4
                """);
        e.edge("BAD.", "company(0) = BAD", "visitor(0, 0, 0) = 0", "company(-1) = BAD", "company(1) = BAD", "company(LOW) = BAD",
                "company(HIGH) = BAD");
    }

    private void parting() {
        e.promise(45);
        e.edge("The one of a GROUP without whom most CELLS are SHOWN to the rest of it, all together, of several the first; "
                + "NONE: nobody is in it.", """
                spoiler(0) = NONE
                visitor(0, 0, 10) = 0
                spoiler(0) = NONE
                # the rest of one is nobody
                spoiler(1) = 0
                visitor(0, 0, 10) = 1
                visitor(1, 0, 20) = 2
                spoiler(3) = 0
                spoiler(5) = 2
                spoiler(7) = 2
                visitor(1, 0, 20) = 3
                spoiler(14) = 2
                spoiler(12) = 2
                """);
        e.edge("BAD: also one who isn't there. (NONE isn't refused.)", "spoiler(1) = BAD", badGroups("spoiler(%)"), "status(12) = 8",
                "spoiler(0) = NONE", "status(12) = 8");
        e.promise(46);
        e.edge("A GROUP parted in two, one behind the other (either may be nobody), so that KNOWN of all is most CELLS then: "
                + "who go first (bits; what 0), of several the least as bits, how many CELLS (1).", """
                split(0, 0) = 0
                split(0, 1) = 0
                visitor(0, 0, 10) = 0
                visitor(1, 0, 20) = 1
                visitor(5, 0, 20) = 2
                # one: nobody first is as good
                split(1, 0) = 0
                split(1, 1) = 7
                # with the ASKER he would see 4 or 5
                split(3, 0) = 1
                split(3, 1) = 7
                # the CHILD sees all
                split(4, 0) = 0
                split(7, 1) = 12
                split(7, 0) = 0
                # KNOWN of all, also of those outside
                mark(11, 0, 20) = 11
                reads "saw 2 11" = 1
                split(1, 1) = 8
                split(0, 1) = 1
                new
                # the ASKER first would let down VEIL for the other
                visitor(1, 0, 20) = 0
                visitor(0, 0, 8) = 1
                split(3, 0) = 2
                split(3, 1) = 9
                visitor(5, 0, 0) = 2
                visit(4) = 4095
                tell(0, 4) = 3
                split(3, 0) = 0
                split(3, 1) = 12
                """);
        e.edge("BAD: also one who isn't there.", "split(1, 0) = BAD", badGroups("split(%, 0)"), "split(0, -1) = BAD", "split(0, 2) = BAD",
                "split(63, LOW) = BAD", "split(64, 2) = BAD", "split(63, 1) = 12");
        e.promise(47);
        e.edge("The two VISITORS who have SEEN most CELLS together, of several the first by numbers: 10 times the lesser and the other; "
                + "NONE: fewer than two are there. (NONE isn't refused.)", """
                couple() = NONE
                visitor(0, 0, 0) = 0
                couple() = NONE
                visitor(0, 0, 0) = 1
                couple() = 1
                6 x visitor(0, 0, 0)
                couple() = 1
                reads "saw 6 0;saw 7 1" = 2
                couple() = 67
                reads "saw 0 1;saw 7 0" = 2
                couple() = 6
                reads "saw 5 2;saw 7 2" = 2
                couple() = 7
                status(12) = 0
                status(15) = 0
                """);
        e.promise(48);
        e.edge("The only VISITOR who has SEEN a CELL; NONE: none, or several.", "secret(0) = NONE", "8 x visitor(0, 0, 0)", "secret(0) = NONE",
                "reads \"saw 7 0\" = 1", "secret(0) = 7", "reads \"saw 0 0\" = 1", "secret(0) = NONE", "reads \"saw 0 11\" = 1", "secret(11) = 0",
                "visit(255)", "secret(11) = NONE");
        e.edge("BAD. (NONE isn't refused.)", "secret(-1) = BAD", "secret(12) = BAD", "secret(HIGH) = BAD", "secret(0) = NONE", "status(12) = 3");
    }

    private void counting() {
        e.promise(49);
        e.edge("The i-th VISITOR (0 on) by how many CELLS he has SEEN, most first, of several alike by numbers.", """
                8 x visitor(0, 0, 0)
                rank(0) = 0
                rank(7) = 7
                reads "saw 7 0;saw 7 1;saw 3 0;saw 4 11" = 4
                rank(0) = 7
                rank(1) = 3
                rank(2) = 4
                rank(3) = 0
                rank(6) = 5
                rank(7) = 6
                """);
        e.edge("BAD.", "rank(0) = BAD", "visitor(0, 0, 0) = 0", "rank(-1) = BAD", "rank(1) = BAD", "rank(0) = 0", "7 x visitor(0, 0, 0)",
                "rank(8) = BAD", "rank(7) = 7");
        e.promise(50);
        e.edge("To how many VISITORS nothing is SHOWN alone, if VEIL is v (0 to 20).", """
                blind(0) = 0
                blind(20) = 0
                8 x visitor(0, 0, 0)
                blind(20) = 0
                mark(0, 0, 1) = 0
                blind(19) = 0
                blind(20) = 8
                wants(7, 20) = 0
                blind(0) = 1
                blind(19) = 1
                status(2) = 4
                """);
        e.edge("BAD.", "blind(-1) = BAD", "blind(21) = BAD", "blind(LOW) = BAD", "blind(HIGH) = BAD");
        e.promise(51);
        e.edge("Of told CELLS (bits) the one of greatest SHYNESS, of several the first; NONE: none is told.", """
                shyest(0) = NONE
                shyest(1) = 0
                shyest(4095) = 11
                mark(5, 0, 11) = 5
                shyest(4095) = 5
                shyest(0b111111011111) = 11
                paves(24) = 12
                shyest(0xFFFFFF) = 20
                shyest(0xE00000) = 21
                """);
        e.edge("BAD: also CELLS that aren't there. (NONE isn't refused.)", "shyest(4096) = BAD", "shyest(4097) = BAD", "shyest(-1) = BAD",
                "shyest(LOW) = BAD", "shyest(HIGH) = BAD", "shyest(0) = NONE", "status(12) = 5");
        e.promise(52);
        e.edge("Whether the same CELLS are SHOWN to two VISITORS, each alone: 1, 0 (they may be the same).", """
                visitor(0, 0, 10) = 0
                alike(0, 0) = 1
                visitor(0, 0, 9) = 1
                alike(0, 1) = 0
                alike(1, 0) = 0
                alike(1, 1) = 1
                # by OPEN 6 and 7, but no CELL between
                mark(7, 0, 8) = 7
                alike(0, 1) = 1
                # alone: a CHILD would open it to the other one, not to himself
                visitor(5, 0, 0) = 2
                tell(0, 20) = 4
                alike(0, 2) = 1
                """);
        e.edge("BAD.", "alike(0, 0) = BAD", "visitor(0, 0, 0) = 0", "alike(0, 1) = BAD", "alike(1, 0) = BAD", "alike(0, -1) = BAD",
                "alike(-1, 0) = BAD", "alike(1, 1) = BAD", "alike(0, 0) = 1");
        e.promise(53);
        e.edge("How many VISITORS are of just a KIND.", """
                ofKind(0) = 0
                ofKind(5) = 0
                visitor(3, 0, 0) = 0
                visitor(4, 0, 0) = 1
                # just: neither an ASKER nor an IDLER nor a VISITOR by that
                ofKind(0) = 0
                ofKind(1) = 0
                ofKind(2) = 0
                ofKind(3) = 1
                ofKind(4) = 1
                6 x visitor(5, 0, 0)
                ofKind(5) = 6
                """);
        e.edge("BAD.", "ofKind(-1) = BAD", "ofKind(6) = BAD", "ofKind(LOW) = BAD", "ofKind(HIGH) = BAD");
    }

    private void logs() {
        e.promise(54);
        e.edge("A told LOG by the first n elements (0 to 40) of the ROW in SHELF s: WRONG; NONE.", """
                visitor(0, 0, 0) = 0
                row(0, 4, 40) = 1
                judge(0, 0) = NONE
                judge(0, 40) = 0
                set(0, 0, 1) = 1
                judge(0, 1) = NONE
                judge(0, 2) = 1
                copy(0, 0, 0, 1, 1) = 1
                copy(0, 0, 0, 2, 2) = 2
                copy(0, 0, 0, 4, 4) = 4
                copy(0, 0, 0, 8, 8) = 8
                copy(0, 0, 0, 16, 16) = 16
                copy(0, 0, 0, 32, 7) = 7
                judge(0, 39) = NONE
                judge(0, 40) = 39
                set(0, 39, 1) = 1
                judge(0, 40) = NONE
                """);
        e.edge("BAD SHELF, n; OTHER; NOTHING; BAD: fewer elements.", rowRefusals("judge(#s, #n)", 40, 1), "judge(1, 2) = 0");
        e.promise(55);
        e.edge("BEHIND it: KNOWN of all (what 0), VEIL (1).", """
                visitor(1, 0, 20) = 0
                row(0, 4, 40) = 1
                behind(0, 0, 0) = 0
                behind(0, 0, 1) = 4
                set(0, 0, 1) = 1
                behind(0, 1, 0) = 1
                behind(0, 1, 1) = 5
                """);
        e.edge("BAD SHELF, n, what; OTHER; NOTHING; BAD: fewer elements; STUCK: it is WRONG.", rowRefusals("behind(#s, #n, 0)", 40, 1), """
                behind(0, 0, -1) = BAD
                behind(2, 0, 2) = BAD
                behind(1, 3, 2) = BAD
                # fewer elements ahead of WRONG
                behind(1, 3, 0) = BAD
                behind(1, 2, 0) = STUCK
                behind(1, 1, 1) = STUCK
                behind(1, 0, 1) = 4
                set(1, 0, 1) = 1
                behind(1, 1, 0) = 4095
                behind(1, 2, 0) = STUCK
                set(1, 1, 2) = 1
                behind(1, 2, 0) = STUCK
                set(1, 1, -1) = 1
                behind(1, 2, 0) = STUCK
                set(1, 1, 1) = 1
                behind(1, 2, 0) = 4095
                """);
    }

    private void inTruth() {
        e.promise(56);
        e.edge("A VISIT of a GROUP in truth: NEW (bits) of it.", """
                visitor(0, 0, 16) = 0
                visitor(5, 0, 0) = 1
                visit(1) = 1
                visit(1) = 0
                visit(2) = 4094
                visit(3) = 0
                visitorOf(0, 3) = 0b111
                status(2) = 2
                status(3) = 4
                """);
        e.edge("BAD: also nobody, one who isn't there.", "visit(0) = BAD", "visit(1) = BAD", badGroups("visit(%)"), "visit(0) = BAD", "status(3) = 0",
                "visit(63) = 4095", "status(3) = 1");
        e.promise(57);
        e.edge("DAYS by draws (n 1 to 60): how many CELLS were NEW.", "visitor(5, 0, 0) = 0", "seed(25) = 1", "days(1) = 12", "status(3) = 1",
                "days(60) = 0", "status(3) = 61");
        e.edge("BAD.", "days(0) = BAD", "days(-1) = BAD", "days(61) = BAD", "days(LOW) = BAD", "days(HIGH) = BAD", "status(6) = 1", "status(3) = 0",
                "status(2) = 4");
        e.promise(58);
        e.edge("SEED becomes v: the one ahead.", "seed(-2) = 1", "seed(LOW) = -2", "seed(HIGH) = LOW", "seed(0) = HIGH", "status(6) = 0",
                "status(12) = 0");
    }

    private void images() {
        e.promise(59);
        e.edge("All is kept, but THE TAPE, SHELVES and REFUSALS: 1.", """
                # a new object can be kept, too
                image() = 1
                visitor(0, 0, 0) = 0
                back() = 1
                status(0) = 0
                # what was kept last is kept; again and again
                visitor(3, 7, 0) = 0
                reads "cells 14;thing 13 0;shy 13 0;saw 0 13;day 998" = 5
                visit(1)
                seed(9) = 1
                image() = 1
                image() = 1
                reads "cells 15;visitor 0 0 0;veil 20;day 5;saw 0 1;thing 13 1;shy 13 9" = 7
                wants(0, 3) = 0
                seed(10) = 9
                row(0, 3, 1) = 1
                set(0, 0, 5) = 1
                feed(120) = 1
                paves(0) = BAD
                back() = 1
                status(0) = 1
                status(1) = 14
                status(2) = 5
                status(3) = 999
                status(4) = 9
                status(6) = 9
                cellOf(13, 0) = 0
                cellOf(13, 1) = 0
                visitorOf(0, 0) = 3
                visitorOf(0, 1) = 7
                visitorOf(0, 2) = 0
                visitorOf(0, 4) = 9
                # but not these
                status(5) = 1
                status(7) = 1
                element(0, 0) = 5
                status(12) = 1
                back() = 1
                status(1) = 14
                """);
        e.promise(60);
        e.edge("All is again as it was kept (SHELVES with VISITORS hold those of the same numbers, or NOTHING): 1.", """
                visitor(0, 0, 3) = 0
                image() = 1
                visitor(1, 0, 5) = 1
                show(0, 0) = 1
                show(1, 1) = 1
                row(2, 3, 1) = 1
                wants(0, 8) = 3
                says(0, 0) = 8
                back() = 1
                holds(0) = 10
                says(0, 0) = 3
                holds(1) = NONE
                holds(2) = 3
                status(7) = 2
                says(1, 0) = NOTHING
                # who gets that number later isn't in the SHELF
                visitor(1, 0, 5) = 1
                holds(1) = NONE
                show(7, 1) = 1
                back() = 1
                holds(7) = NONE
                # in the first SHELF and in all
                visitor(2, 0, 0) = 1
                show(0, 1) = 1
                show(1, 1) = 1
                show(3, 1) = 1
                show(4, 1) = 1
                show(5, 1) = 1
                show(6, 1) = 1
                show(7, 1) = 1
                status(7) = 8
                back() = 1
                status(7) = 1
                holds(0) = NONE
                holds(2) = 3
                # who got that number before is
                image() = 1
                visitor(2, 0, 0) = 1
                image() = 1
                show(7, 1) = 1
                back() = 1
                holds(7) = 11
                """);
        e.at(60, """
                # the KINDS of those who are gone don't count any more
                visitor(0, 0, 0) = 0
                image() = 1
                visitor(1, 0, 0) = 1
                visitor(5, 0, 0) = 2
                back() = 1
                visitor(0, 0, 0) = 1
                visitor(0, 0, 0) = 2
                veilThen(7) = 4
                open(0, 7) = 16
                ofKind(0) = 3
                # all of eight are there again
                5 x visitor(0, 0, 0)
                image() = 1
                back() = 1
                visitor(0, 0, 0) = FULL
                """);
        e.edge("STUCK: nothing was.", "back() = STUCK", "back() = STUCK", "status(15) = 2", "image() = 1", "back() = 1", "back() = 1",
                "status(15) = 2");
        e.promise(61);
        e.edge("VISITORS (0), CELLS (1), VEIL (2), DAY (3), how many CELLS all KNOW together (4), THE TAPE's size (5), SEED (6), "
                + "SHELVES that hold something (7);", """
                7 x visitor(0, 0, 0)
                visitor(5, 0, 0) = 7
                reads "cells 24;veil 0;day 998" = 3
                visit(128) = 0xFFFFFF
                reads "x" = -20
                feed(255) = 1
                seed(LOW) = 1
                row(0, 0, 0) = 1
                show(7, 7) = 1
                status(0) = 8
                status(1) = 24
                status(2) = 0
                status(3) = 999
                status(4) = 24
                status(5) = 1
                status(6) = LOW
                status(7) = 2
                """);
        e.edge("12 to 16: REFUSALS -2 to -6.", """
                status(12) = 0
                status(16) = 0
                8 x visitor(0, 0, 0)
                visitor(0, 0, 0) = FULL
                show(0, 0) = 1
                2 x status(16) = 1
                set(0, 0, 0) = OTHER
                2 x set(1, 0, 0) = NOTHING
                3 x back() = STUCK
                4 x paves(0) = BAD
                status(12) = 4
                status(13) = 1
                status(14) = 2
                status(15) = 3
                status(16) = 1
                """);
        e.edge("NONE another what.", "status(-1) = NONE", "status(8) = NONE", "status(11) = NONE", "status(17) = NONE", "status(LOW) = NONE",
                "status(HIGH) = NONE", "status(12) = 0");
        e.section("What it is");
        e.sentence("An object is used for at most 512 calls after it has been made; what later calls answer is free.");
        e.at(61, "511 x status(0) = 0", "status(1) = 12");
        e.at(24, "6 x visitor(5, 0, 0)", "2 x visitor(0, 0, 0)", "503 x order(63, NONE) = 12", "send(8) = 255");
        e.at(57, "8 x visitor(3, 0, 0)", "503 x days(60)", "status(3) = 999");
    }
}
