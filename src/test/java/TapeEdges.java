/** THE TAPE: its bytes, the TOKENS and the STATEMENTS in it, and the place of the FAULT. */
final class TapeEdges {
    private static final int VIEW = 16;
    /** Bytes that begin no TOKEN, next to those that do. */
    private static final int[] STRAY = {0, 1, 9, 10, 13, 31, 33, 45, 47, 58, 60, 64, 65, 90, 91, 95, 96, 123, 127, 128, 160, 233, 255};

    private final Edges e;

    private TapeEdges(Edges edges) {
        e = edges;
    }

    static void tell(Edges edges) {
        TapeEdges t = new TapeEdges(edges);
        edges.section("THE VIEW");
        t.tape();
        t.tokens();
        t.statements();
        t.fault();
    }

    private static String blanks(int n) {
        return " ".repeat(n);
    }

    private static String reads(String text, int due) {
        return "reads \"" + text + "\" = " + due + "\n";
    }

    private void tape() {
        e.sentence("A VIEW is read from THE TAPE (bytes, 250 at most).");
        e.at(14, """
                feed(LOW) = BAD
                feed(-1) = BAD
                feed(0) = 1
                feed(255) = 2
                feed(256) = BAD
                feed(HIGH) = BAD
                247 x feed(32)
                feed(32) = 250
                feed(32) = FULL
                status(5) = 250
                """);
        e.at(15, "250 x feed(32)", "wipe() = 250", "status(5) = 0", "feed(32) = 1", "wipe() = 1", "wipe() = 0");
        e.at(VIEW, "250 x feed(32)", "feed(59) = FULL", "view() = -270", "status(5) = 0", "feed(32) = 1");
        e.at(VIEW, reads(blanks(244) + "veil 3", 1), "status(2) = 3");
        e.at(VIEW, reads("veil 3" + blanks(244), 1), "status(2) = 3");
        e.at(VIEW, reads(blanks(249) + ";", -269));
        e.at(VIEW, reads(blanks(246) + "veil", -270));
        e.at(VIEW, reads(blanks(245) + "veil ", -270));
        // what was fed before the tape was emptied is not there any more
        e.at(VIEW, "reads \"veil 12;day 15\" = 2", "reads \"veil\" = -24", "status(2) = 12", "reads \"veil 7\" = 1", "status(2) = 7");
        e.at(61, "status(5) = 0", "249 x feed(7)", "status(5) = 249", "feed(7) = 250", "feed(7) = FULL", "status(5) = 250");
    }

    private void tokens() {
        e.sentence("TOKENS, each as long as can be:");
        e.at(VIEW, """
                reads "veilveil 3" = -20
                reads "veil 3veil 4" = -26
                reads "dayveil 3" = -20
                reads "day 12" = 1
                status(3) = 12
                reads "day 123" = 1
                status(3) = 123
                reads "day 1 2 3" = -26
                reads "veil 121" = -25
                reads "shy 1120" = -24
                reads "visitor 123" = -28
                reads "visitor 1 23" = -30
                reads "veil3;day4" = 2
                status(2) = 3
                status(3) = 4
                """);
        e.sentence("WORDS (a .. z),");
        e.at(VIEW, """
                reads "veila 3" = -20
                reads "veilz 3" = -20
                reads "veil`3" = -24
                reads "veil{3" = -24
                reads "veilA 3" = -24
                reads "veilZ 3" = -24
                reads "veil_ 3" = -24
                reads "`veil 3" = -20
                reads "aveil 3" = -20
                reads "zveil 3" = -20
                reads "Veil 3" = -20
                reads "VEIL 3" = -20
                reads "veil z" = -25
                reads "vei 3" = -20
                reads "veils 3" = -20
                status(2) = 4
                """);
        // a WORD that is another by one letter, the first, one between or the last
        for (String word : new String[] {"cells", "visitor", "shy", "thing", "saw", "veil", "day"}) {
            StringBuilder script = new StringBuilder("visitor(0, 0, 0) = 0\n");
            for (int i = 0; i < word.length(); i++) {
                script.append(reads(word.substring(0, i) + "q" + word.substring(i + 1) + " 0 0 0", -20));
            }
            e.at(VIEW, script.toString());
        }
        e.sentence("NUMBERS (digits),");
        e.at(VIEW, """
                reads "veil 0" = 1
                reads "veil 9" = 1
                reads "veil 10" = 1
                reads "veil 19" = 1
                status(2) = 19
                reads "veil 09" = 1
                status(2) = 9
                reads "veil 1/" = -26
                reads "veil 1:" = -26
                reads "veil /1" = -25
                reads "veil :1" = -25
                reads "veil -1" = -25
                reads "veil +1" = -25
                reads "veil 1.0" = -26
                reads "veil 0x1" = -26
                status(2) = 9
                """);
        e.sentence("the SIGN ; -");
        e.at(VIEW, """
                reads "veil 3;day 4" = 2
                reads "veil 3:day 4" = -26
                reads "veil 3<day 4" = -26
                reads "veil 3,day 4" = -26
                reads "veil 3;;day 4" = -27
                """);
        e.sentence("blanks (32) may stand anywhere between.");
        e.at(VIEW, """
                reads "  veil   5  ;  day   6  " = 2
                status(2) = 5
                status(3) = 6
                reads "cells13;visitor0 1 2;shy12 3;thing12 4;saw0 12;veil7;day8" = 7
                reads "ve il 3" = -20
                reads "veil 1 2" = -27
                reads "day 9 9" = -26
                reads "visitor000" = -30
                reads "shy1 1" = 1
                reads "veil!3" = -24
                status(2) = 7
                """);
        e.at(VIEW, "feed(32)", "feed(100)", "feed(97)", "feed(121)", "feed(32)", "feed(32)", "feed(55)", "feed(32)", "view() = 1", "status(3) = 7");
        for (int stray : new int[] {0, 9, 10, 13, 31, 33, 160}) {
            e.at(VIEW, "feed(100)", "feed(97)", "feed(121)", "feed(" + stray + ")", "feed(55)", "view() = -23", "status(3) = 0");
        }
    }

    private void statements() {
        e.sentence("STATEMENTS, one or more, with ; between:");
        e.at(VIEW, """
                view() = -20
                reads ";" = -20
                reads "veil 3" = 1
                reads "veil 3;veil 4" = 2
                reads "veil 3;" = -27
                reads "veil 3 ; " = -29
                reads ";veil 3" = -20
                reads "veil 3;;veil 5" = -27
                reads "veil 3 veil 5" = -27
                reads "veil 3veil 5" = -26
                status(2) = 4
                """);
        e.at(VIEW, reads("day1;".repeat(49) + "day2", 50), "status(3) = 2");
        e.at(VIEW, reads("day1;".repeat(50), -270), "status(3) = 0");
        e.sentence("cells N (only as many or more);");
        e.at(VIEW, """
                reads "cells 11" = -26
                reads "cells 12" = 1
                reads "cells 13;cells 12" = -35
                status(1) = 12
                reads "cells 13;cells 13;cells 14" = 3
                reads "cells 13" = -26
                reads "cells 24" = 1
                reads "cells 25" = -26
                reads "cells 023" = -26
                reads "cells 024" = 1
                reads "cells" = -25
                reads "cells x" = -26
                reads "cells 24 24" = -29
                status(1) = 24
                """);
        e.sentence("visitor K A W;");
        e.at(VIEW, """
                reads "visitor" = -27
                reads "visitor 0" = -29
                reads "visitor 0 0" = -31
                reads "visitor 0 0 0 0" = -34
                reads "visitor;" = -27
                reads "visitor 0;" = -29
                reads "visitor 0 0;" = -31
                reads "visitor 6 0 0" = -28
                reads "visitor 0 10 0" = -30
                reads "visitor 0 0 21" = -32
                status(0) = 0
                reads "visitor 5 9 20;visitor 0 0 0" = 2
                visitorOf(0, 0) = 5
                visitorOf(0, 1) = 9
                visitorOf(0, 2) = 20
                """);
        e.sentence("shy C N;");
        e.at(VIEW, """
                reads "shy" = -23
                reads "shy 0" = -25
                reads "shy 0 1 2" = -28
                reads "shy 12 0" = -24
                reads "shy 0 21" = -26
                reads "cells 13;shy 13 0" = -33
                cellOf(0, 0) = 0
                reads "cells 13;shy 12 20;shy 0 20;shy 11 0" = 4
                cellOf(12, 0) = 20
                cellOf(0, 0) = 20
                cellOf(11, 0) = 0
                """);
        e.sentence("thing C T;");
        e.at(VIEW, """
                reads "thing" = -25
                reads "thing 0" = -27
                reads "thing 0 1 2" = -30
                reads "thing 12 0" = -26
                reads "thing 0 10" = -28
                reads "cells 13;thing 13 0" = -35
                cellOf(0, 1) = 0
                reads "cells 13;thing 12 9;thing 0 9;thing 11 0" = 4
                cellOf(12, 1) = 9
                cellOf(0, 1) = 9
                cellOf(11, 1) = 0
                """);
        e.sentence("saw X C;");
        e.at(VIEW, """
                reads "saw" = -23
                reads "saw 0" = -24
                reads "saw 0 0" = -24
                reads "saw 0 0;visitor 0 0 0" = -24
                reads "visitor 0 0 0;saw 0" = -39
                reads "visitor 0 0 0;saw 1 0" = -38
                reads "visitor 0 0 0;saw 0 12" = -40
                reads "visitor 0 0 0;saw 0 0 0" = -42
                status(0) = 0
                reads "visitor 0 0 0;saw 0 0;saw 0 11;saw 0 11;cells 13;saw 0 12" = 6
                visitorOf(0, 3) = 0b1100000000001
                reads "saw 0 1" = 1
                visitorOf(0, 3) = 0b1100000000011
                """);
        e.sentence("veil N;");
        e.at(VIEW, """
                reads "veil" = -24
                reads "veil 21" = -25
                reads "veil 3 3" = -27
                status(2) = 4
                reads "veil 0" = 1
                status(2) = 0
                reads "veil 20" = 1
                status(2) = 20
                """);
        e.sentence("day N (999 at most).");
        e.at(VIEW, """
                reads "day" = -23
                reads "day 1000" = -24
                reads "day 3 3" = -26
                status(3) = 0
                reads "day 999" = 1
                status(3) = 999
                reads "day 0" = 1
                status(3) = 0
                """);
        e.sentence("All comes to what there is, or nothing.");
        e.at(VIEW, """
                visitor(1, 2, 3) = 0
                reads "saw 0 3" = 1
                reads "cells 13;visitor 0 0 0;shy 0 5;thing 0 5;saw 0 0;veil 9;day 9;veil 21" = -87
                reads "cells 13;visitor 0 0 0;shy 0 5;thing 0 5;saw 0 0;veil 9;day 9;" = -82
                status(0) = 1
                status(1) = 12
                status(2) = 4
                status(3) = 0
                status(4) = 1
                cellOf(0, 0) = 0
                cellOf(0, 1) = 0
                reads "cells 13;visitor 0 0 0;shy 0 5;thing 0 5;saw 0 0;veil 9;day 9" = 7
                visitorOf(0, 0) = 1
                visitorOf(0, 3) = 9
                status(0) = 2
                status(1) = 13
                status(2) = 9
                status(3) = 9
                cellOf(0, 0) = 5
                cellOf(0, 1) = 5
                seed(5) = 1
                """);
        e.at(VIEW, """
                # what doesn't come leaves nothing behind for what comes later
                reads "cells 24;shy 23 3;thing 23 4;visitor 5 5 5;saw 0 23;x" = -72
                paves(24) = 12
                cellOf(23, 0) = 20
                cellOf(23, 1) = 3
                visitor(0, 0, 0) = 0
                visitorOf(0, 3) = 0
                open(0, 1) = 16
                veilThen(1) = 4
                """);
    }

    private void fault() {
        e.sentence("The FAULT: the place of the first byte of the first TOKEN that can't stand there");
        e.at(VIEW, """
                reads "x" = -20
                reads "3" = -20
                reads "   x" = -23
                reads "veil 21;veil 22" = -25
                reads "veil 3;veil 22" = -32
                reads "veil    21" = -28
                reads "veil veil" = -25
                reads "veil ;" = -25
                reads "3 veil" = -20
                reads "visitor 6 10 21" = -28
                reads "visitor 0 10 21" = -30
                reads "shy 12 21" = -24
                reads "saw 0 12" = -24
                """);
        e.at(VIEW, reads(blanks(249) + "x", -269));
        e.sentence("(also a NUMBER that may not be,");
        e.at(VIEW, """
                reads "veil 20" = 1
                reads "veil 21" = -25
                reads "day 999" = 1
                reads "cells 24" = 1
                reads "cells 25" = -26
                reads "visitor 5 9 20" = 1
                reads "visitor 6 9 20" = -28
                reads "visitor 5 10 20" = -30
                reads "visitor 5 9 21" = -32
                reads "shy 23 20" = 1
                reads "shy 24 20" = -24
                reads "shy 23 21" = -27
                reads "thing 23 9" = 1
                reads "thing 24 9" = -26
                reads "thing 23 10" = -29
                reads "saw 0 23" = 1
                reads "saw 1 23" = -24
                reads "saw 0 24" = -26
                """);
        e.sentence("or has more than 3 digits;");
        e.at(VIEW, """
                reads "veil 3" = 1
                reads "veil 03" = 1
                reads "veil 003" = 1
                reads "veil 0003" = -25
                reads "veil 000" = 1
                reads "veil 0000" = -25
                reads "day 0999" = -24
                reads "cells 0012" = -26
                reads "visitor 000 009 020" = 1
                reads "visitor 0000 009 020" = -28
                reads "visitor 000 0009 020" = -32
                reads "visitor 000 009 0020" = -36
                """);
        // numbers that would wrap around to what may be: 2 to the 32nd and 64th, and 3
        e.at(VIEW, "reads \"veil 4294967299\" = -25", "reads \"veil 18446744073709551619\" = -25", "status(2) = 4");
        e.at(VIEW, reads("veil " + "0".repeat(245), -25), "status(2) = 4");
        e.sentence("what there is no room for: its word;");
        e.at(VIEW, """
                7 x visitor(0, 0, 0)
                reads "visitor 0 0 0;visitor 0 0 0" = -34
                reads "visitor 0 0 0;veil 3;  visitor" = -43
                reads "visitor 0 0 0" = 1
                reads "visitor 0 0 0" = -20
                reads " visitor 0 0 0" = -21
                reads "visitor" = -20
                reads "visitor 6" = -20
                reads "visitors" = -20
                reads "veil 3;visitor 0 0 0" = -27
                reads "veil 21;visitor 0 0 0" = -25
                status(0) = 8
                status(2) = 4
                """);
        e.at(VIEW, reads("visitor 0 0 0;".repeat(8) + "visitor 0 0 0", -132), "status(0) = 0",
                reads("visitor 0 0 0;".repeat(7) + "visitor 0 0 0", 8), "status(0) = 8");
        e.sentence("a byte that begins none);");
        for (int stray : STRAY) {
            e.at(VIEW, "feed(" + stray + ")", "view() = -20",
                    "feed(118)", "feed(101)", "feed(105)", "feed(108)", "feed(" + stray + ")", "feed(51)", "view() = -24",
                    "feed(100)", "feed(97)", "feed(121)", "feed(51)", "feed(" + stray + ")", "view() = -24",
                    "feed(100)", "feed(97)", "feed(121)", "feed(51)", "feed(32)", "feed(" + stray + ")", "view() = -25",
                    "feed(100)", "feed(97)", "feed(121)", "feed(51)", "feed(59)", "feed(" + stray + ")", "view() = -25");
        }
        e.sentence("THE TAPE's size, if it ends too early.");
        e.at(VIEW, """
                view() = -20
                reads " " = -21
                reads "veil" = -24
                reads "veil " = -25
                reads "veil   " = -27
                reads "veil 3;" = -27
                reads "veil 3;  " = -29
                reads "veil 3;day" = -30
                reads "cells" = -25
                reads "shy 1" = -25
                reads "thing 1" = -27
                reads "visitor 1 1" = -31
                reads "vei" = -20
                """);
        e.at(VIEW, "250 x feed(32)", "view() = -270");
    }
}
