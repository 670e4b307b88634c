/** WHAT COMES OF IT: what is told by what there is, LOGS, DAYS and DRAWS. */
final class OutcomeEdges {
    private static final String SIX = ViewEdges.SIX;

    private final Edges e;

    private OutcomeEdges(Edges edges) {
        e = edges;
    }

    static void tell(Edges edges) {
        OutcomeEdges t = new OutcomeEdges(edges);
        edges.section("WHAT COMES OF IT (nothing is changed)");
        t.known();
        t.sent();
        t.orders();
        t.howAndLifted();
        t.register();
        t.fits();
        t.together();
        t.pictures();
        t.lifts();
        t.chances();
        t.logs();
        t.days();
        t.draws();
    }

    private void known() {
        e.sentence("KNOWN: CELLS (bits) any of told VISITORS has SEEN.");
        e.at(21, """
                known(0) = 0
                8 x visitor(0, 0, 0)
                known(255) = 0
                reads "cells 24;saw 0 0;saw 0 23;saw 7 22;saw 7 0" = 5
                known(0) = 0
                known(1) = 0x800001
                known(128) = 0x400001
                known(129) = 0xC00001
                known(126) = 0
                known(255) = 0xC00001
                """);
        e.at(61, "status(4) = 0", "8 x visitor(0, 0, 0)", "status(4) = 0", "reads \"cells 24;saw 0 0;saw 7 0;saw 7 23\" = 4", "status(4) = 2",
                "tell(0, 0) = 4", "paves(24) = 24", "visitor(5, 0, 0) = FULL", "visit(1)", "status(4) = 24");
        e.sentence("NEW of a GROUP: CELLS (bits) SHOWN to some of it that nobody of all has SEEN.");
        e.at(22, """
                fresh(0) = 0
                visitor(0, 0, 16) = 0
                visitor(0, 0, 13) = 1
                visitor(0, 0, 0) = 2
                fresh(0) = 0
                fresh(1) = 1
                fresh(2) = 0b1111
                fresh(3) = 0b1111
                # one outside has SEEN it
                reads "saw 2 0" = 1
                fresh(1) = 0
                fresh(2) = 0b1110
                fresh(7) = 0b111111111110
                """);
        e.at(56, "visitor(0, 0, 16) = 0", "visitor(0, 0, 13) = 1", "reads \"saw 1 0\" = 1", "visit(1) = 0", "visit(3) = 0b1110", "visit(3) = 0");
        e.at(24, """
                # what one outside has SEEN isn't NEW
                visitor(0, 0, 16) = 0
                visitor(0, 0, 15) = 1
                send(1) = 2
                reads "saw 0 1" = 1
                send(1) = 1
                """);
    }

    private void sent() {
        e.sentence("SEND k (1 to 8): the GROUP of so many by which most CELLS are NEW, of several the least as bits; "
                + "NONE: not so many VISITORS.");
        e.at(24, """
                send(LOW) = BAD
                send(-1) = BAD
                send(0) = BAD
                send(9) = BAD
                send(HIGH) = BAD
                send(1) = NONE
                send(8) = NONE
                visitor(0, 0, 0) = 0
                send(1) = 1
                send(2) = NONE
                6 x visitor(0, 0, 0)
                send(7) = 127
                send(8) = NONE
                visitor(0, 0, 0) = 7
                send(1) = 1
                send(2) = 3
                send(8) = 255
                # where nothing is NEW, the least as bits is sent still
                visit(255) = 4095
                send(1) = 1
                send(4) = 15
                send(8) = 255
                """);
        e.sentence("FEWEST for told CELLS: the GROUP of fewest to which, all together, all of them are SHOWN, of several the least as bits; NONE.");
        e.at(25, """
                fewest(0) = 0
                fewest(1) = NONE
                8 x visitor(5, 0, 0)
                fewest(0) = 0
                fewest(1) = 1
                fewest(4095) = 1
                # the last CELL is SHOWN by OPEN 17 and more: to two, three, all eight, nobody
                mark(11, 0, 17) = 11
                fewest(2048) = 3
                mark(11, 0, 18) = 17
                fewest(2048) = 7
                tell(0, 13) = 4
                mark(11, 0, 14) = 18
                fewest(2048) = 255
                fewest(4095) = 255
                mark(11, 0, 15) = 14
                fewest(2048) = NONE
                fewest(2049) = NONE
                fewest(2047) = 15
                fewest(0) = 0
                """);
        e.at(25, """
                # of several the least as bits: not the one who sees most
                visitor(0, 0, 15) = 0
                visitor(0, 0, 13) = 1
                visitor(0, 0, 0) = 2
                fewest(0b11) = 1
                fewest(0b111) = 2
                fewest(0b10000) = 4
                """);
    }

    private void orders() {
        e.sentence("ORDER of told VISITORS (6 at most), each alone, one VISIT behind the other: by which KNOWN of all is most CELLS then: "
                + "how many; the i-th, of several orders the first by rows.");
        e.at(26, """
                order(0, NONE) = 0
                order(0, 0) = STUCK
                8 x visitor(0, 0, 16)
                order(0, NONE) = 0
                order(1, NONE) = 1
                order(1, 0) = 0
                order(1, 1) = STUCK
                order(63, NONE) = 1
                order(63, 0) = 0
                order(63, 5) = 5
                order(63, 6) = STUCK
                order(252, 0) = 2
                order(252, 5) = 7
                order(127, NONE) = BAD
                order(255, NONE) = BAD
                # KNOWN of all, also of those who aren't told
                reads "saw 7 11" = 1
                order(1, NONE) = 2
                order(0, NONE) = 1
                order(128, NONE) = 2
                """);
        e.at(26, """
                # no CELL at all by any order: still the first by rows
                3 x visitor(0, 0, 20)
                mark(0, 0, 1) = 0
                order(6, NONE) = 0
                order(6, 0) = 1
                order(6, 1) = 2
                order(7, 0) = 0
                """);
        e.at(26, """
                # six of whom the last must go first: the CHILD
                5 x visitor(0, 0, 0)
                visitor(5, 0, 0) = 5
                mark(11, 0, 17) = 11
                order(31, NONE) = 11
                order(63, NONE) = 12
                # of all the orders the first by rows has him ahead of the last alone
                order(63, 0) = 0
                order(63, 3) = 3
                order(63, 4) = 5
                order(63, 5) = 4
                """);
        e.at(26, """
                # the CELL is SHOWN once three CHILDREN have gone, to him behind them alone
                visitor(0, 0, 0) = 0
                visitor(5, 0, 20) = 1
                visitor(5, 0, 20) = 2
                visitor(5, 0, 20) = 3
                mark(11, 0, 19) = 11
                order(15, NONE) = 12
                order(15, 0) = 1
                order(15, 1) = 2
                order(15, 2) = 3
                order(15, 3) = 0
                """);
    }

    private void howAndLifted() {
        e.sentence("HOW to see: the least WANT of one (0 to 20) by which, alone, a CELL is SHOWN to him; NONE.");
        e.at(27, """
                visitor(0, 0, 20) = 0
                tell(0, 20) = 4
                how(0, 0) = 0
                how(0, 1) = NONE
                tell(0, 0) = 20
                mark(0, 0, 20) = 0
                how(0, 0) = 0
                tell(0, 1) = 0
                how(0, 0) = NONE
                visitorOf(0, 2) = 20
                # by his own KIND, a and SEEN
                visitor(1, 0, 0) = 1
                how(1, 9) = 0
                how(1, 10) = NONE
                visitor(3, 0, 0) = 2
                how(2, 9) = 0
                reads "saw 2 0" = 1
                how(2, 8) = 0
                how(2, 9) = NONE
                # alone: a DRIVER has not 5 more
                visitor(4, 0, 0) = 3
                mark(11, 0, 20) = 11
                how(3, 11) = NONE
                """);
        e.sentence("LIFTED: the least VEIL, the greatest VEIL by which it's SHOWN to one alone; NONE.");
        e.at(28, """
                visitor(0, 0, 0) = 0
                mark(11, 0, 20) = 11
                lifted(0, 0, 0) = 0
                lifted(0, 0, 1) = 20
                lifted(0, 1, 1) = 19
                lifted(0, 11, 0) = 0
                lifted(0, 11, 1) = 0
                wants(0, 1) = 0
                lifted(0, 11, 0) = NONE
                lifted(0, 11, 1) = NONE
                wants(0, 20) = 1
                lifted(0, 0, 1) = 20
                lifted(0, 1, 0) = NONE
                lifted(0, 1, 1) = NONE
                status(2) = 4
                """);
    }

    private void register() {
        e.sentence("REGISTER, a ROW of twos (a VISITOR; CELLS as bits, SHOWN to him alone): for a CELL, by its bit alone: "
                + "the least SHYNESS (0 to 20) that fits, the greatest, how many (all else as it is); NONE.");
        e.at(29, SIX, """
                # OPEN 10 to the VISITOR, 5 to the ASKER
                row(0, 3, 4) = 1
                set(0, 0, 0) = 1
                set(0, 2, 1) = 1
                register(0, 0, 3, 0) = 0
                register(0, 0, 3, 1) = 20
                register(0, 0, 3, 2) = 21
                set(0, 1, 8) = 1
                register(0, 1, 3, 0) = 0
                register(0, 1, 3, 1) = 10
                register(0, 1, 3, 2) = 11
                register(0, 2, 3, 0) = 6
                register(0, 2, 3, 1) = 10
                register(0, 2, 3, 2) = 5
                set(0, 1, 9) = 1
                register(0, 2, 0, 0) = 6
                register(0, 2, 0, 1) = 10
                # one alone fits
                wants(1, 0) = 5
                wants(0, 7) = 6
                register(0, 2, 3, 0) = 9
                register(0, 2, 3, 1) = 9
                register(0, 2, 3, 2) = 1
                # none: SHOWN to him by OPEN 8, and not to the other by 8
                wants(0, 8) = 7
                register(0, 2, 3, 0) = NONE
                register(0, 2, 3, 1) = NONE
                register(0, 2, 3, 2) = 0
                """);
        e.at(29, SIX, """
                # by its bit alone: other bits may tell what they like, also of CELLS that aren't there
                row(0, 3, 2) = 1
                set(0, 1, -1) = 1
                register(0, 1, 11, 1) = 10
                set(0, 1, GREATEST) = 1
                register(0, 1, 11, 1) = 10
                set(0, 1, LEAST) = 1
                register(0, 1, 11, 0) = 11
                set(0, 1, 0x100000800) = 1
                register(0, 1, 11, 1) = 10
                register(0, 1, 10, 0) = 11
                # a byte's sign goes on through the upper bits
                row(1, 0, 2) = 1
                set(1, 1, 128) = 1
                register(1, 1, 7, 1) = 10
                register(1, 1, 11, 1) = 10
                register(1, 1, 6, 0) = 11
                set(1, 1, 127) = 1
                register(1, 1, 6, 1) = 10
                register(1, 1, 11, 0) = 11
                # as it is now doesn't matter, but VEIL does
                mark(11, 0, 0) = 11
                register(1, 1, 11, 0) = 11
                tell(0, 14) = 4
                register(1, 1, 11, 0) = 1
                register(1, 1, 0, 1) = 0
                """);
        e.at(29, """
                # twenty twos, and a ROW that isn't used up
                visitor(0, 0, 16) = 0
                visitor(0, 0, 15) = 1
                row(0, 2, 40) = 1
                register(0, 20, 0, 0) = 1
                register(0, 20, 0, 2) = 20
                set(0, 38, 1) = 1
                register(0, 20, 0, 0) = 2
                register(0, 19, 0, 0) = 1
                register(0, 21, 0, 0) = BAD
                """);
    }

    private void fits() {
        e.sentence("By a ROW of twos (VEIL; CELLS SHOWN to one alone): KINDS (bits), WANTS (bits 0 to 20) of him that fit.");
        e.at(30, """
                visitor(2, 3, 12) = 0
                row(0, 3, 4) = 1
                fits(0, 0, 0, 0) = 0b111111
                fits(0, 0, 0, 1) = 0x1FFFFF
                # VEIL 4: OPEN 4 2 7 2 7 16; then VEIL 5: 3 1 6 1 6 15
                set(0, 0, 4) = 1
                set(0, 1, 0b11111111) = 1
                fits(0, 1, 0, 0) = 0b010100
                fits(0, 1, 0, 1) = 0x1000
                set(0, 2, 5) = 1
                set(0, 3, 0b1111111) = 1
                fits(0, 2, 0, 0) = 0b010100
                fits(0, 2, 0, 1) = 0x1000
                # none fits both
                set(0, 3, 0b11111111) = 1
                fits(0, 2, 0, 0) = 0
                fits(0, 2, 0, 1) = 0
                # other bits, too, must be as they are SHOWN
                set(0, 1, 0x1000000FF) = 1
                fits(0, 1, 0, 0) = 0
                set(0, 1, -1) = 1
                fits(0, 1, 0, 0) = 0
                fits(0, 1, 0, 1) = 0
                """);
        e.at(30, """
                # the last WANT alone, the first alone, and by those on which nothing more is SHOWN all behind
                visitor(0, 0, 9) = 0
                row(0, 2, 2) = 1
                set(0, 1, 1) = 1
                fits(0, 1, 0, 1) = 0x100000
                set(0, 0, 1) = 1
                fits(0, 1, 0, 1) = 0x180000
                set(0, 0, 20) = 1
                fits(0, 1, 0, 1) = 0x1FFFFF
                paves(24) = 12
                set(0, 0, 0) = 1
                set(0, 1, 0xFFFFFF) = 1
                fits(0, 1, 0, 1) = 1
                """);
        e.at(30, """
                # an ARTIST by how many CELLS he has SEEN, which the ASKER isn't asked for
                visitor(0, 0, 0) = 0
                reads "saw 0 10" = 1
                row(0, 2, 2) = 1
                set(0, 0, 4) = 1
                set(0, 1, 255) = 1
                fits(0, 1, 0, 0) = 0b001000
                set(0, 1, 511) = 1
                fits(0, 1, 0, 0) = 0b000010
                """);
    }

    private void together() {
        e.sentence("TOLD together: the least k (0 to 8) by which any k of all VISITORS together have SEEN all CELLS; NONE.");
        e.at(31, """
                together() = NONE
                visitor(5, 0, 0) = 0
                together() = NONE
                visit(1) = 4095
                together() = 1
                visitor(5, 0, 0) = 1
                together() = 2
                6 x visitor(5, 0, 0)
                together() = 8
                visit(2) = 0
                together() = 7
                visit(252) = 0
                together() = 1
                paves(13) = 12
                together() = NONE
                """);
        e.at(31, """
                # all but the first and the last CELL, then those
                visitor(5, 0, 0) = 0
                mark(0, 0, 20) = 0
                mark(11, 0, 20) = 11
                visit(1) = 2046
                together() = NONE
                reads "saw 0 11" = 1
                together() = NONE
                reads "saw 0 0" = 1
                together() = 1
                new
                visitor(5, 0, 0) = 0
                mark(11, 0, 20) = 11
                visit(1) = 2047
                together() = NONE
                reads "saw 0 11" = 1
                together() = 1
                """);
        e.sentence("NEEDED: VISITORS (bits) without each of whom all others don't KNOW what all do.");
        e.at(32, """
                needed() = 0
                visitor(0, 0, 0) = 0
                needed() = 0
                reads "saw 0 0" = 1
                needed() = 1
                visitor(0, 0, 0) = 1
                needed() = 1
                reads "saw 1 0" = 1
                needed() = 0
                6 x visitor(0, 0, 0)
                reads "saw 0 1;saw 1 2;saw 2 3;saw 3 4;saw 4 5;saw 5 6;saw 6 7;saw 7 8" = 8
                needed() = 255
                reads "saw 3 8" = 1
                needed() = 127
                """);
    }

    private void pictures() {
        e.sentence("FITS a picture: a ROW of THINGS: SHIFTS (bits 0 on) by which, laid on the CELLS from there on, "
                + "it is so wherever one has SEEN the CELL (it must not go beyond).");
        e.at(33, """
                visitor(0, 0, 0) = 0
                row(0, 0, 40) = 1
                picture(0, 0, 0) = 0b1111111111111
                picture(0, 1, 0) = 0b111111111111
                picture(0, 11, 0) = 0b11
                picture(0, 12, 0) = 0b1
                picture(0, 13, 0) = 0
                picture(0, 24, 0) = 0
                picture(0, 25, 0) = BAD
                paves(24) = 12
                picture(0, 24, 0) = 1
                picture(0, 23, 0) = 0b11
                picture(0, 1, 0) = 0xFFFFFF
                picture(0, 0, 0) = 0x1FFFFFF
                """);
        e.at(33, """
                # the first and the last CELL SEEN: THINGS 0 and 1
                visitor(0, 0, 0) = 0
                reads "saw 0 0;saw 0 11" = 2
                row(0, 2, 12) = 1
                set(0, 11, 1) = 1
                picture(0, 12, 0) = 1
                set(0, 11, 2) = 1
                picture(0, 12, 0) = 0
                picture(0, 11, 0) = 0b01
                set(0, 0, 1) = 1
                picture(0, 1, 0) = 0b111111111110
                set(0, 0, 0) = 1
                picture(0, 1, 0) = 0b011111111111
                picture(0, 2, 0) = 0b01111111111
                set(0, 1, 1) = 1
                picture(0, 2, 0) = 0b11111111111
                # a number that is a THING in its lowest bits alone is none
                row(1, 3, 1) = 1
                set(1, 0, 0x100000000) = 1
                picture(1, 1, 0) = 0b011111111110
                """);
    }

    private void lifts() {
        e.sentence("LIFT by turns, n of them (0 to 4): two by turns send one VISITOR alone, whom nobody sent yet "
                + "(if none is left, nothing): who begins wants VEIL least then, the other one greatest: VEIL, both choosing best; "
                + "whom who begins sends, of several the first; NONE: n is 0, or nobody is there.");
        e.at(34, """
                lift(LOW, 0) = BAD
                lift(-1, 0) = BAD
                lift(5, 0) = BAD
                lift(HIGH, 0) = BAD
                # nobody is there
                lift(0, 0) = 4
                lift(0, 1) = NONE
                lift(4, 0) = 4
                lift(4, 1) = NONE
                # one: he must go, and none is left then
                visitor(1, 0, 0) = 0
                lift(0, 0) = 4
                lift(0, 1) = NONE
                lift(1, 0) = 5
                lift(1, 1) = 0
                lift(4, 0) = 5
                lift(4, 1) = 0
                """);
        e.at(34, """
                visitor(5, 0, 0) = 0
                visitor(5, 0, 0) = 1
                visitor(5, 0, 0) = 2
                lift(1, 0) = 3
                lift(2, 0) = 2
                lift(3, 0) = 1
                lift(4, 0) = 1
                lift(4, 1) = 0
                visitor(5, 0, 0) = 3
                lift(3, 0) = 1
                lift(4, 0) = 0
                tell(0, 1) = 4
                lift(4, 0) = 0
                tell(0, 0) = 1
                lift(4, 0) = 0
                """);
        e.at(34, """
                # two turns: the CHILD, then the ASKER; three: all have gone, whoever began
                visitor(1, 0, 0) = 0
                visitor(0, 0, 0) = 1
                visitor(5, 0, 0) = 2
                lift(1, 0) = 3
                lift(1, 1) = 2
                lift(2, 0) = 4
                lift(2, 1) = 2
                lift(3, 0) = 4
                lift(3, 1) = 0
                lift(4, 0) = 4
                # three who let it down, whoever is on; then none is left
                new
                visitor(1, 0, 0) = 0
                visitor(3, 0, 0) = 1
                visitor(1, 0, 0) = 2
                lift(1, 0) = 5
                lift(2, 0) = 6
                lift(3, 0) = 7
                lift(4, 0) = 7
                tell(0, 19) = 4
                lift(1, 0) = 20
                lift(3, 0) = 20
                lift(4, 0) = 20
                # one ASKER can't be sent twice
                new
                visitor(1, 0, 0) = 0
                visitor(5, 0, 0) = 1
                visitor(5, 0, 0) = 2
                lift(2, 0) = 4
                lift(3, 0) = 3
                lift(4, 0) = 3
                lift(4, 1) = 0
                # nor one by whom VEIL stays
                new
                3 x visitor(5, 0, 0)
                visitor(0, 0, 0) = 3
                lift(2, 0) = 3
                lift(3, 0) = 2
                lift(4, 0) = 1
                lift(4, 1) = 0
                # of several the first
                new
                visitor(0, 0, 0) = 0
                visitor(2, 0, 0) = 1
                lift(1, 0) = 4
                lift(1, 1) = 0
                lift(2, 1) = 0
                """);
    }

    private void chances() {
        e.sentence("CHANCE, WANT being 0 to 20, each alike: of 1,000,000 (cut), how likely a CELL is SHOWN to one alone.");
        e.at(35, """
                visitor(0, 0, 20) = 0
                tell(0, 0) = 4
                mark(11, 0, 20) = 11
                chance(0, 11) = 47619
                mark(11, 0, 19) = 20
                chance(0, 11) = 95238
                mark(11, 0, 10) = 19
                chance(0, 11) = 523809
                mark(11, 0, 1) = 10
                chance(0, 11) = 952380
                mark(11, 0, 0) = 1
                chance(0, 11) = 1000000
                tell(0, 1) = 0
                mark(11, 0, 20) = 0
                chance(0, 11) = 0
                visitorOf(0, 2) = 20
                """);
        e.sentence("MEAN: 1000 times how many CELLS are SHOWN to him then, in the mean (cut).");
        e.at(36, """
                # VEIL 20: CELL 0 alone, by each WANT; then nothing
                visitor(0, 0, 7) = 0
                tell(0, 20) = 4
                mean(0) = 1000
                mark(0, 0, 1) = 0
                mean(0) = 0
                # two CELLS by one WANT of 21; three by one and two by another
                tell(0, 19) = 20
                mean(0) = 95
                tell(0, 18) = 19
                mean(0) = 238
                visitor(5, 0, 0) = 1
                tell(0, 0) = 18
                paves(24) = 12
                mean(1) = 24000
                """);
    }

    private void logs() {
        e.sentence("A told LOG: a ROW of GROUPS (bits), one VISIT behind the other: WRONG: the first that can't be "
                + "(nobody, or one who isn't there); NONE.");
        e.at(54, """
                row(0, 2, 3) = 1
                judge(0, 0) = NONE
                judge(0, 1) = 0
                visitor(0, 0, 0) = 0
                visitor(0, 0, 0) = 1
                judge(0, 1) = 0
                set(0, 0, 3) = 1
                set(0, 1, 1) = 1
                judge(0, 2) = NONE
                judge(0, 3) = 2
                set(0, 2, 4) = 1
                judge(0, 3) = 2
                set(0, 2, 5) = 1
                judge(0, 3) = 2
                # the first of two
                set(0, 1, 4) = 1
                judge(0, 3) = 1
                judge(0, 1) = NONE
                set(0, 0, -1) = 1
                judge(0, 3) = 0
                """);
        e.at(54, """
                # all eight are no byte
                8 x visitor(0, 0, 0)
                row(0, 0, 1) = 1
                set(0, 0, 255) = 1
                judge(0, 1) = 0
                set(0, 0, 127) = 1
                judge(0, 1) = NONE
                row(0, 1, 1) = 1
                set(0, 0, 255) = 1
                judge(0, 1) = NONE
                # of booleans 1 is the first VISITOR
                row(0, 4, 2) = 1
                set(0, 0, 255) = 1
                judge(0, 1) = NONE
                judge(0, 2) = 1
                """);
        e.sentence("BEHIND it: KNOWN of all (bits), VEIL.");
        e.at(55, """
                row(0, 2, 2) = 1
                behind(0, 0, 0) = 0
                behind(0, 0, 1) = 4
                visitor(0, 0, 16) = 0
                visitor(1, 0, 0) = 1
                reads "saw 1 11" = 1
                behind(0, 0, 0) = 0b100000000000
                behind(0, 0, 1) = 4
                set(0, 0, 1) = 1
                behind(0, 1, 0) = 0b100000000001
                set(0, 1, 2) = 1
                behind(0, 2, 0) = 0b100111111111
                behind(0, 2, 1) = 5
                """);
        e.at(55, """
                # forty, by which VEIL comes to its end
                visitor(1, 0, 20) = 0
                row(0, 4, 40) = 1
                behind(0, 40, 1) = STUCK
                row(0, 0, 40) = 1
                set(0, 0, 1) = 1
                copy(0, 0, 0, 1, 1) = 1
                copy(0, 0, 0, 2, 2) = 2
                copy(0, 0, 0, 4, 4) = 4
                copy(0, 0, 0, 8, 8) = 8
                copy(0, 0, 0, 16, 16) = 16
                copy(0, 0, 0, 32, 8) = 8
                behind(0, 15, 1) = 19
                behind(0, 16, 1) = 20
                behind(0, 40, 1) = 20
                behind(0, 40, 0) = 1
                judge(0, 40) = NONE
                behind(0, 41, 0) = BAD
                status(2) = 4
                """);
        e.plain("IN TRUTH: a VISIT.");
    }

    private void days() {
        e.sentence("DAYS by draws, n: each: VEIL becomes a DRAW below 21;");
        e.at(57, """
                # 20 and 0 are drawn, whatever VEIL was
                seed(52) = 1
                days(1) = 0
                status(2) = 20
                seed(25)
                days(1) = 0
                status(2) = 0
                # the ASKER goes by 20, and it is 20 at most behind him; by 0
                new
                visitor(1, 0, 20) = 0
                seed(52) = 1
                days(1) = 1
                status(2) = 20
                seed(25) = 1558410194
                days(1) = 0
                status(2) = 1
                # the CHILD by 0, and it is 0 at least behind him; by 20
                new
                visitor(5, 0, 20) = 0
                seed(25) = 1
                days(1) = 12
                status(2) = 0
                seed(52) = -709023041
                days(1) = 0
                status(2) = 19
                """);
        e.sentence("a GROUP: each VISITOR, by numbers, comes, if a DRAW below 2 is 1; a VISIT, if anybody comes (else DAY is 1 more);");
        e.at(57, """
                # nobody of two comes: DAY is 1 more, and VEIL as it was drawn
                visitor(0, 0, 20) = 0
                visitor(0, 0, 20) = 1
                image() = 1
                seed(7) = 1
                days(1) = 0
                status(2) = 0
                status(3) = 1
                status(6) = 712265938
                cellOf(0, 2) = 0
                back() = 1
                seed(5) = 1
                days(1) = 1
                status(2) = 7
                status(3) = 1
                status(6) = 695785320
                cellOf(0, 2) = 1
                back() = 1
                seed(1) = 1
                days(1) = 1
                status(2) = 17
                status(6) = 662824084
                cellOf(0, 2) = 2
                back() = 1
                seed(2) = 1
                days(1) = 1
                status(2) = 13
                status(6) = -1476419255
                cellOf(0, 2) = 3
                """);
        e.at(57, """
                # eight: the last alone, the first and the last, all
                8 x visitor(0, 0, 20)
                image() = 1
                seed(120) = 1
                days(1) = 1
                status(6) = 747748233
                cellOf(0, 2) = 128
                back() = 1
                seed(22) = 1
                days(1) = 1
                status(6) = 249034895
                cellOf(0, 2) = 129
                back() = 1
                seed(222) = 1
                days(1) = 1
                status(6) = -1976321353
                cellOf(0, 2) = 255
                """);
        e.sentence("how many CELLS were NEW in all of them.");
        e.at(57, """
                # on its first four days 4, 8, 0 and 0; all of them at once, and of sixty
                visitor(0, 0, 0) = 0
                visitor(5, 0, 0) = 1
                image() = 1
                days(1) = 4
                days(1) = 8
                days(2) = 0
                back() = 1
                days(4) = 12
                back() = 1
                days(2) = 12
                back() = 1
                paves(24) = 12
                days(60) = 24
                status(2) = 18
                status(3) = 60
                status(6) = 752577037
                # what was SEEN ahead isn't NEW
                days(60) = 0
                """);
    }

    private void draws() {
        e.sentence("A DRAW below n: SEED (1 at first) becomes SEED times 1103515245, and 12345 (an int, wrapping); "
                + "its upper 16 bits, no sign, modulo n.");
        e.at(1, "status(6) = 1");
        e.at(58, "seed(0) = 1", "seed(LOW) = 0", "seed(HIGH) = LOW", "seed(-1) = HIGH", "status(6) = -1");
        e.at(57, """
                # 16838 modulo 21, from 1; then 38526, where SEED has wrapped to below 0
                days(1) = 0
                status(2) = 17
                status(6) = 1103527590
                days(1) = 0
                status(2) = 12
                status(6) = -1770082073
                # 33676 from 2, 32768 from the least int, 15929 from the greatest, 48697 from -1, 0 from 0
                seed(2) = -1770082073
                days(1) = 0
                status(2) = 13
                status(6) = -2087924461
                seed(LOW) = -2087924461
                days(1) = 0
                status(2) = 8
                status(6) = -2147471303
                seed(HIGH)
                days(1) = 0
                status(2) = 11
                status(6) = 1043980748
                seed(-1)
                days(1) = 0
                status(2) = 19
                status(6) = -1103502900
                seed(0)
                days(1) = 0
                status(2) = 0
                status(6) = 12345
                """);
        e.at(57, "days(60) = 0", "status(2) = 0", "status(3) = 60", "status(6) = -2020009403");
    }
}
