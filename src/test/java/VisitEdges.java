/** A VISIT: how OPEN it is to one in a GROUP, what is SHOWN, and what a VISIT does to VEIL and DAY. */
final class VisitEdges {
    private final Edges e;

    private VisitEdges(Edges edges) {
        e = edges;
    }

    static void tell(Edges edges) {
        VisitEdges t = new VisitEdges(edges);
        edges.section("A VISIT");
        t.groups();
        t.openByKinds();
        t.openInGroups();
        t.shown();
        t.visits();
        t.veilBehind();
        t.days();
    }

    /** A call that takes a GROUP for %: its answers for nobody, the only one, all of eight. */
    private void group(int promise, String call, String nobody, String one, String all) {
        e.at(promise,
                call.replace("%", "0") + " = " + nobody,
                call.replace("%", "1") + " = BAD",
                call.replace("%", "LOW") + " = BAD",
                "visitor(0, 0, 0) = 0",
                call.replace("%", "-1") + " = BAD",
                call.replace("%", "2") + " = BAD",
                call.replace("%", "3") + " = BAD",
                call.replace("%", "HIGH") + " = BAD",
                call.replace("%", "1") + " = " + one,
                "7 x visitor(0, 0, 0)",
                call.replace("%", "256") + " = BAD",
                call.replace("%", "511") + " = BAD",
                call.replace("%", "255") + " = " + all);
    }

    private void groups() {
        e.sentence("A GROUP (bits) goes together.");
        group(21, "known(%)", "0", "0", "0");
        group(22, "fresh(%)", "0", "4095", "4095");
        group(23, "veilThen(%)", "BAD", "4", "4");
        group(45, "spoiler(%)", "NONE", "0", "0");
        group(46, "split(%, 0)", "0", "0", "0");
        group(46, "split(%, 1)", "0", "12", "12");
        group(56, "visit(%)", "BAD", "4095", "0");
        for (String call : new String[] {"open", "shown"}) {
            String due = call.equals("open") ? "16" : "4095";
            e.at(call.equals("open") ? 19 : 20, ("""
                    8 x visitor(0, 0, 0)
                    CALL(0, 0) = BAD
                    CALL(0, 1) = DUE
                    CALL(7, 128) = DUE
                    CALL(0, 128) = BAD
                    CALL(7, 127) = BAD
                    CALL(0, 255) = DUE
                    CALL(7, 255) = DUE
                    CALL(0, 256) = BAD
                    CALL(0, 257) = BAD
                    CALL(0, -1) = BAD
                    CALL(0, LOW) = BAD
                    CALL(0, HIGH) = BAD
                    """).replace("CALL", call).replace("DUE", due));
        }
        e.at(26, """
                order(0, NONE) = 0
                order(1, NONE) = BAD
                visitor(0, 0, 0) = 0
                order(1, NONE) = 12
                order(2, NONE) = BAD
                order(3, NONE) = BAD
                order(-1, NONE) = BAD
                order(LOW, NONE) = BAD
                7 x visitor(0, 0, 0)
                order(128, 0) = 7
                order(256, NONE) = BAD
                """);
        e.at(54, """
                row(0, 3, 1) = 1
                judge(0, 1) = 0
                set(0, 0, 1) = 1
                judge(0, 1) = 0
                8 x visitor(0, 0, 0)
                judge(0, 1) = NONE
                set(0, 0, 255) = 1
                judge(0, 1) = NONE
                set(0, 0, 256) = 1
                judge(0, 1) = 0
                set(0, 0, 0) = 1
                judge(0, 1) = 0
                set(0, 0, -1) = 1
                judge(0, 1) = 0
                set(0, 0, 4294967297) = 1
                judge(0, 1) = 0
                """);
        e.at(55, """
                row(0, 3, 1) = 1
                8 x visitor(0, 0, 0)
                set(0, 0, 255) = 1
                behind(0, 1, 0) = 4095
                set(0, 0, 256) = 1
                behind(0, 1, 0) = STUCK
                set(0, 0, 4294967297) = 1
                behind(0, 1, 0) = STUCK
                set(0, 0, -1) = 1
                behind(0, 1, 0) = STUCK
                set(0, 0, 0) = 1
                behind(0, 1, 0) = STUCK
                """);
    }

    private void openByKinds() {
        e.sentence("OPEN to one in it: VISITOR: 20 less WANT and VEIL.");
        e.at(19, """
                visitor(0, 9, 16) = 0
                open(0, 1) = 0
                wants(0, 15) = 16
                open(0, 1) = 1
                wants(0, 17) = 15
                open(0, 1) = 0
                wants(0, 0) = 17
                tell(0, 0) = 4
                open(0, 1) = 20
                tell(0, 20) = 0
                open(0, 1) = 0
                wants(0, 20) = 0
                open(0, 1) = 0
                """);
        e.sentence("ASKER half of that (cut).");
        e.at(19, """
                visitor(1, 9, 16) = 0
                open(0, 1) = 0
                wants(0, 17) = 16
                open(0, 1) = 0
                wants(0, 15) = 17
                open(0, 1) = 0
                wants(0, 14) = 15
                open(0, 1) = 1
                wants(0, 13) = 14
                open(0, 1) = 1
                wants(0, 12) = 13
                open(0, 1) = 2
                wants(0, 0) = 12
                tell(0, 0) = 4
                open(0, 1) = 10
                tell(0, 20) = 0
                open(0, 1) = 0
                """);
        e.at(8, "visitor(1, 0, 13) = 0", "show(0, 0) = 1", "says(0, 1) = 1", "wants(0, 15) = 13", "says(0, 1) = 0");
        e.at(36, """
                # OPEN by WANT 0 on: 8 7 7 6 6 5 5 4 4 3 3 2 2 1 1 0 0, and four times 0: one CELL more each
                visitor(1, 0, 13) = 0
                mean(0) = 4047
                """);
        e.sentence("ARTIST what it is to an ASKER, less how many CELLS he has SEEN.");
        e.at(19, """
                visitor(3, 9, 0) = 0
                tell(0, 0) = 4
                open(0, 1) = 10
                reads "saw 0 0;saw 0 1;saw 0 2;saw 0 3;saw 0 4;saw 0 5;saw 0 6;saw 0 7;saw 0 8" = 9
                open(0, 1) = 1
                reads "saw 0 9" = 1
                open(0, 1) = 0
                reads "saw 0 10;saw 0 11" = 2
                open(0, 1) = 0
                """);
        e.sentence("IDLER what it is to a VISITOR, and a more.");
        e.at(19, """
                visitor(2, 9, 20) = 0
                open(0, 1) = 9
                wants(0, 17) = 20
                open(0, 1) = 9
                wants(0, 16) = 17
                open(0, 1) = 9
                wants(0, 15) = 16
                open(0, 1) = 10
                wants(0, 5) = 15
                open(0, 1) = 20
                wants(0, 4) = 5
                open(0, 1) = 20
                tell(0, 20) = 4
                open(0, 1) = 9
                visitor(2, 0, 20) = 1
                open(1, 2) = 0
                """);
        e.at(27, "visitor(2, 9, 20) = 0", "tell(0, 20) = 4", "how(0, 9) = 0", "how(0, 10) = NONE");
        e.at(28, "visitor(2, 9, 20) = 0", "lifted(0, 9, 1) = 20", "lifted(0, 10, 1) = NONE", "lifted(0, 10, 0) = NONE");
        e.sentence("DRIVER what it is to an IDLER, and 5 more, if he isn't alone.");
        e.at(19, """
                visitor(4, 9, 20) = 0
                visitor(0, 0, 20) = 1
                open(0, 1) = 9
                open(0, 3) = 14
                wants(0, 11) = 20
                open(0, 1) = 14
                open(0, 3) = 19
                wants(0, 10) = 11
                open(0, 3) = 20
                wants(0, 9) = 10
                open(0, 3) = 20
                open(0, 1) = 16
                # two of them: neither is alone
                visitor(4, 0, 20) = 2
                open(2, 4) = 0
                open(2, 5) = 5
                """);
        e.at(44, "visitor(4, 9, 20) = 0", "company(0) = 1", "visitor(0, 0, 20) = 1", "company(0) = 3", "tell(0, 20) = 4", "company(0) = 3");
        e.sentence("CHILD 20 less VEIL.");
        e.at(19, """
                visitor(5, 9, 20) = 0
                open(0, 1) = 16
                wants(0, 0) = 20
                open(0, 1) = 16
                tell(0, 0) = 4
                open(0, 1) = 20
                tell(0, 19) = 0
                open(0, 1) = 1
                tell(0, 20) = 19
                open(0, 1) = 0
                """);
        e.at(35, "visitor(5, 0, 20) = 0", "chance(0, 11) = 1000000", "tell(0, 9) = 4", "chance(0, 11) = 1000000",
                "tell(0, 10) = 9", "chance(0, 11) = 0");
        e.sentence("(Of each of these 0 at least.)");
        // a CHILD beside one who would be below 0 makes it 1: it is 0 at least ahead of that
        e.at(19, """
                tell(0, 20) = 4
                visitor(0, 0, 20) = 0
                visitor(1, 0, 20) = 1
                visitor(2, 0, 20) = 2
                visitor(3, 0, 20) = 3
                visitor(4, 0, 20) = 4
                visitor(5, 0, 20) = 5
                visitor(5, 0, 20) = 6
                reads "saw 3 0;saw 3 1" = 2
                open(0, 33) = 1
                open(1, 34) = 1
                open(2, 36) = 1
                open(3, 40) = 1
                open(4, 48) = 6
                open(5, 96) = 1
                open(0, 97) = 2
                open(1, 98) = 2
                open(2, 100) = 2
                open(3, 104) = 2
                open(4, 112) = 7
                """);
        e.at(20, """
                tell(0, 20) = 4
                visitor(0, 0, 20) = 0
                visitor(5, 0, 20) = 1
                shown(0, 1) = 1
                shown(0, 3) = 3
                """);
        e.at(22, "tell(0, 20) = 4", "visitor(0, 0, 20) = 0", "visitor(5, 0, 20) = 1", "fresh(3) = 3", "fresh(1) = 1");
        e.at(39, """
                tell(0, 20) = 4
                visitor(0, 0, 20) = 0
                visitor(0, 0, 20) = 1
                visitor(5, 0, 20) = 2
                mate(0) = 2
                mate(2) = 0
                """);
        e.at(44, "tell(0, 20) = 4", "visitor(0, 0, 20) = 0", "visitor(5, 0, 20) = 1", "company(0) = 3", "company(1) = 2");
        e.at(56, "tell(0, 20) = 4", "visitor(0, 0, 20) = 0", "visitor(5, 0, 20) = 1", "visit(3) = 3", "status(2) = 19");
    }

    private void openInGroups() {
        e.sentence("Then, for each: 2 less for each other ASKER or ARTIST in the GROUP,");
        e.at(19, """
                visitor(1, 0, 0) = 0
                visitor(3, 0, 0) = 1
                visitor(0, 0, 0) = 2
                # not for himself
                open(0, 1) = 8
                open(1, 2) = 8
                open(0, 3) = 6
                open(1, 3) = 6
                open(0, 5) = 8
                open(2, 4) = 16
                open(2, 5) = 14
                open(2, 6) = 14
                open(2, 7) = 12
                """);
        e.sentence("1 more for each other CHILD (0 at least, 20 at most).");
        e.at(19, """
                visitor(5, 0, 0) = 0
                visitor(5, 0, 0) = 1
                visitor(5, 0, 0) = 2
                # not for himself
                open(0, 1) = 16
                open(0, 3) = 17
                open(0, 7) = 18
                tell(0, 2) = 4
                open(0, 7) = 20
                tell(0, 1) = 2
                open(0, 7) = 20
                tell(0, 0) = 1
                open(0, 7) = 20
                tell(0, 20) = 0
                open(0, 7) = 2
                """);
        // 0 at least
        e.at(19, """
                visitor(0, 0, 14) = 0
                visitor(1, 0, 0) = 1
                visitor(1, 0, 0) = 2
                visitor(5, 0, 0) = 3
                open(0, 1) = 2
                open(0, 3) = 0
                open(0, 7) = 0
                # all of it together, then 0 at least
                open(0, 15) = 0
                wants(0, 13) = 14
                open(0, 3) = 1
                open(0, 7) = 0
                open(0, 15) = 0
                wants(0, 12) = 13
                open(0, 7) = 0
                open(0, 15) = 1
                """);
        // 20 at most: IDLERS of 29
        e.at(19, """
                tell(0, 0) = 4
                visitor(2, 9, 0) = 0
                6 x visitor(1, 0, 0)
                visitor(5, 0, 0) = 7
                open(0, 1) = 20
                open(0, 3) = 20
                open(0, 31) = 20
                open(0, 63) = 19
                open(0, 191) = 20
                open(0, 127) = 17
                open(0, 255) = 18
                """);
        e.at(20, """
                # by 20, not by 21 and more: all CELLS, and nothing beyond them
                tell(0, 0) = 4
                visitor(2, 9, 0) = 0
                visitor(5, 0, 0) = 1
                shown(0, 1) = 4095
                shown(0, 3) = 4095
                shown(1, 3) = 4095
                paves(24) = 12
                shown(0, 3) = 0xFFFFFF
                tell(0, 20) = 0
                visitor(1, 0, 0) = 2
                visitor(1, 0, 0) = 3
                shown(2, 12) = 1
                mark(0, 0, 1) = 0
                shown(2, 12) = 0
                """);
        e.at(25, """
                # two CHILDREN see what one doesn't
                visitor(5, 0, 0) = 0
                mark(11, 0, 17) = 11
                fewest(2048) = NONE
                visitor(5, 0, 0) = 1
                fewest(2048) = 3
                mark(11, 0, 18) = 17
                fewest(2048) = NONE
                """);
        e.at(45, """
                # without the ASKER the rest sees more
                visitor(0, 0, 14) = 0
                visitor(1, 0, 20) = 1
                spoiler(3) = 1
                """);
    }

    private void shown() {
        e.sentence("SHOWN to him: CELLS (bits) whose SHYNESS is OPEN at most.");
        String ten = """
                # OPEN 10: CELL 10 is SHOWN, CELL 11 isn't
                visitor(0, 0, 6) = 0
                """;
        e.at(20, ten, "shown(0, 1) = 0b11111111111", "mark(11, 0, 10) = 11", "shown(0, 1) = 4095", "mark(10, 0, 11) = 10",
                "shown(0, 1) = 0b101111111111");
        e.at(22, ten, "fresh(1) = 0b11111111111");
        e.at(25, ten, "fewest(0b11111111111) = 1", "fewest(0b100000000000) = NONE", "fewest(1024) = 1");
        e.at(27, ten, "how(0, 11) = 0", "mark(11, 0, 16) = 11", "how(0, 11) = 0", "mark(11, 0, 17) = 16", "how(0, 11) = NONE");
        e.at(28, ten, "lifted(0, 10, 1) = 4", "lifted(0, 11, 1) = 3", "mark(11, 0, 14) = 11", "lifted(0, 11, 1) = 0",
                "mark(11, 0, 15) = 14", "lifted(0, 11, 1) = NONE");
        e.at(29, ten, "row(0, 2, 2) = 1", "register(0, 1, 5, 0) = 11", "set(0, 1, 32) = 1", "register(0, 1, 5, 1) = 10");
        e.at(30, ten, "row(0, 2, 2) = 1", "set(0, 0, 4) = 1", "set(0, 1, 0b11111111111) = 1", "fits(0, 1, 0, 1) = 64",
                "set(0, 1, 0b111111111111) = 1", "fits(0, 1, 0, 1) = 0b111111");
        e.at(35, ten, "chance(0, 11) = 285714", "chance(0, 10) = 333333");
        e.at(37, ten, "hidden() = 2048");
        e.at(38, ten, "best(1) = 11");
        e.at(42, ten, "visitsTill(0, 10) = 1", "visitsTill(0, 11) = NONE");
        e.at(43, ten, "who(10) = 1", "who(11) = 0");
        e.at(50, ten, "mark(0, 0, 1) = 0", "blind(13) = 0", "blind(14) = 1");
        e.at(52, ten, "visitor(0, 0, 5) = 1", "alike(0, 1) = 0", "mark(11, 0, 12) = 11", "alike(0, 1) = 1");
        e.at(56, ten, "visit(1) = 0b11111111111");
    }

    private void visits() {
        e.sentence("A VISIT: each in the GROUP has SEEN what is SHOWN to him, too (all by what was SEEN ahead of it);");
        e.at(56, """
                visitor(0, 0, 16) = 0
                visitor(0, 0, 0) = 1
                reads "saw 0 11;saw 1 5" = 2
                # too: what was SEEN ahead stays, and who isn't in the GROUP sees nothing
                visit(1) = 1
                visitorOf(0, 3) = 0b100000000001
                visitorOf(1, 3) = 32
                """);
        e.at(56, """
                # two ARTISTS at once, by what each has SEEN ahead of it: OPEN 8 less 2
                visitor(3, 0, 0) = 0
                visitor(3, 0, 0) = 1
                visit(3) = 0b1111111
                visitorOf(0, 4) = 7
                visitorOf(1, 4) = 7
                # VEIL is 6 now: 7 less 2 less 7 CELLS
                open(0, 3) = 0
                open(0, 1) = 0
                """);
        e.at(57, """
                visitor(0, 0, 20) = 0
                visitor(0, 0, 20) = 1
                reads "saw 0 11;saw 1 5" = 2
                days(60) = 1
                visitorOf(0, 3) = 0b100000000001
                visitorOf(1, 3) = 0b000000100001
                """);
        e.at(55, """
                # an ARTIST by what he has SEEN in the VISIT ahead: OPEN 8, then 7 less 9
                visitor(3, 0, 0) = 0
                row(0, 2, 2) = 1
                set(0, 0, 1) = 1
                set(0, 1, 1) = 1
                behind(0, 1, 0) = 0b111111111
                behind(0, 2, 0) = 0b111111111
                behind(0, 2, 1) = 6
                visitorOf(0, 3) = 0
                """);
    }

    private void veilBehind() {
        e.sentence("then VEIL is 1 more for each ASKER or ARTIST in it, 1 less for each CHILD, together (0 at least, 20 at most);");
        String four = """
                visitor(1, 0, 20) = 0
                visitor(3, 0, 20) = 1
                visitor(5, 0, 20) = 2
                visitor(5, 0, 20) = 3
                """;
        e.at(23, four, """
                tell(0, 19) = 4
                veilThen(1) = 20
                veilThen(3) = 20
                # together: 2 more and 1 less
                veilThen(7) = 20
                veilThen(15) = 19
                tell(0, 20) = 19
                veilThen(1) = 20
                veilThen(3) = 20
                veilThen(5) = 20
                veilThen(7) = 20
                veilThen(13) = 19
                veilThen(12) = 18
                tell(0, 1) = 20
                veilThen(4) = 0
                veilThen(12) = 0
                veilThen(13) = 0
                tell(0, 0) = 1
                veilThen(4) = 0
                veilThen(5) = 0
                veilThen(12) = 0
                veilThen(13) = 0
                veilThen(7) = 1
                veilThen(3) = 2
                """);
        e.at(56, four, """
                tell(0, 20) = 4
                visit(1) = 1
                status(2) = 20
                # the ASKER beside a CHILD: OPEN 1
                visit(5) = 2
                status(2) = 20
                tell(0, 0) = 20
                visit(4) = 4092
                status(2) = 0
                visit(5) = 0
                status(2) = 0
                """);
        e.at(55, four, """
                row(0, 2, 3) = 1
                tell(0, 20) = 4
                set(0, 0, 3) = 1
                set(0, 1, 12) = 1
                set(0, 2, 12) = 1
                behind(0, 1, 1) = 20
                behind(0, 2, 1) = 18
                tell(0, 3) = 20
                behind(0, 3, 1) = 1
                set(0, 0, 12) = 1
                behind(0, 2, 1) = 0
                behind(0, 3, 1) = 0
                """);
        e.at(34, four, """
                tell(0, 20) = 4
                lift(1, 0) = 19
                lift(2, 0) = 20
                tell(0, 0) = 20
                lift(1, 0) = 0
                lift(1, 1) = 2
                # a CHILD and then an ASKER: 1; an ASKER and then another: 2
                lift(2, 0) = 1
                lift(2, 1) = 2
                new
                # 20 at most: it is the same whom he sends
                visitor(1, 0, 0) = 0
                visitor(0, 0, 0) = 1
                tell(0, 20) = 4
                lift(1, 0) = 20
                lift(1, 1) = 0
                lift(2, 0) = 20
                lift(2, 1) = 0
                """);
        e.at(26, """
                # VEIL is 0, and the CHILD can't lift it more: as good behind him as ahead
                visitor(5, 0, 20) = 0
                visitor(0, 0, 10) = 1
                reads "cells 24;shy 0 20" = 2
                tell(0, 0) = 4
                order(3, NONE) = 24
                order(2, NONE) = 10
                order(3, 0) = 0
                """);
        e.at(26, """
                # behind the ASKER VEIL is 20 still, and the CHILD lifts it to 19: as good as the CHILD first
                visitor(1, 0, 20) = 0
                visitor(5, 0, 20) = 1
                visitor(0, 0, 0) = 2
                tell(0, 20) = 4
                order(7, NONE) = 2
                order(7, 0) = 0
                order(7, 1) = 1
                order(7, 2) = 2
                """);
        e.at(46, """
                visitor(1, 0, 20) = 0
                visitor(0, 0, 0) = 1
                visitor(5, 0, 0) = 2
                tell(0, 20) = 4
                split(3, 1) = 1
                split(3, 0) = 0
                # the CHILD first: OPEN 1 to the VISITOR behind him; together it is as much
                split(6, 1) = 2
                split(6, 0) = 0
                tell(0, 0) = 20
                split(6, 1) = 12
                split(6, 0) = 0
                """);
        e.at(42, """
                # VEIL 1, 0 and 0 again
                visitor(5, 0, 0) = 0
                paves(24) = 12
                tell(0, 1) = 4
                visitsTill(0, 19) = 1
                visitsTill(0, 20) = 2
                tell(0, 20) = 1
                visitsTill(0, 1) = 2
                visitsTill(0, 20) = 21
                new
                # an ASKER lets it down until 20
                visitor(1, 0, 0) = 0
                visitsTill(0, 8) = 1
                visitsTill(0, 9) = NONE
                """);
    }

    private void days() {
        e.sentence("DAY is 1 more (999 at most).");
        e.at(56, """
                visitor(0, 0, 20) = 0
                visit(1) = 1
                status(3) = 1
                tell(1, 998) = 1
                visit(1) = 0
                status(3) = 999
                visit(1) = 0
                status(3) = 999
                """);
        e.at(57, """
                # with somebody, who comes on some of the days only, and with nobody
                visitor(0, 0, 20) = 0
                days(60) = 1
                status(3) = 60
                tell(1, 998) = 60
                days(1)
                status(3) = 999
                days(60) = 0
                status(3) = 999
                new
                days(60) = 0
                status(3) = 60
                tell(1, 940) = 60
                days(59) = 0
                status(3) = 999
                days(1) = 0
                status(3) = 999
                """);
    }
}
