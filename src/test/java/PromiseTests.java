/** For each promise ordinary numbers, the edges that the document names, and what is refused, in its order. */
final class PromiseTests {
    private static final int NONE = VeilsOfTheView.NONE;
    private static final int BAD = -2;
    private static final int OTHER = -3;
    private static final int NOTHING = -4;
    private static final int STUCK = -5;
    private static final int FULL = -6;
    private static final int LOW = Integer.MIN_VALUE;
    private static final int HIGH = Integer.MAX_VALUE;

    private final Check c;
    private Face x;

    private PromiseTests(Check check) {
        c = check;
    }

    static void run(Check check) {
        PromiseTests t = new PromiseTests(check);
        t.shelves();
        t.making();
        t.asking();
        t.comingOfIt();
        t.manyMore();
        t.inTruth();
    }

    private void promise(int number, String name, Runnable body) {
        c.test("promise " + number + ": " + name, () -> {
            x = Used.face();
            body.run();
        });
    }

    /** One of each KIND, numbered as the kinds are: OPEN alone is 10, 5, 7, 7, 7, 16 (VEIL 4). */
    private void sixKinds() {
        int[][] told = {{0, 6}, {0, 5}, {3, 12}, {0, 2}, {1, 10}, {0, 20}};
        for (int kind = 0; kind < 6; kind++) {
            c.due("visitor of kind " + kind, x.visitor(kind, told[kind][0], told[kind][1]), kind);
        }
    }

    private void feedText(String text) {
        for (int i = 0; i < text.length(); i++) {
            x.feed(text.charAt(i));
        }
    }

    /** Tells a view, the answer that is due, and that a fault changes nothing. */
    private void reads(String text, int want) {
        String ahead = Used.behind(x).look();
        feedText(text);
        c.due("size of \"" + text + "\"", x.status(5), text.length());
        long bad = Used.behind(x).refusals()[0];
        c.due("view() of \"" + text + "\"", x.view(), want);
        c.due("BAD behind it", Used.behind(x).refusals()[0], want < 0 ? bad + 1 : bad);
        if (want < 0) {
            c.holds("\"" + text + "\" changes nothing", ahead.equals(Used.behind(x).look()));
        } else {
            c.due("size behind it", x.status(5), 0);
        }
    }

    private void fill(int s, int sort, long... elements) {
        c.due("row(" + s + ")", x.row(s, sort, elements.length), 1);
        for (int i = 0; i < elements.length; i++) {
            c.due("set(" + s + ", " + i + ")", x.set(s, i, elements[i]), 1);
        }
    }

    private void shelves() {
        promise(1, "a new object", () -> {
            int[] due = {0, 12, 4, 0, 0, 0, 1, 0};
            for (int what = 0; what < due.length; what++) {
                c.due("status(" + what + ")", x.status(what), due[what]);
            }
            for (int what = 12; what <= 16; what++) {
                c.due("status(" + what + ")", x.status(what), 0);
            }
            for (int cell = 0; cell < 12; cell++) {
                c.due("SHYNESS of " + cell, x.cellOf(cell, 0), cell);
                c.due("THING of " + cell, x.cellOf(cell, 1), cell % 10);
                c.due("who saw " + cell, x.cellOf(cell, 2), 0);
            }
            for (int s = 0; s < 8; s++) {
                c.due("holds(" + s + ")", x.holds(s), NONE);
            }
            c.due("NONE", NONE, -1);
            c.refused(x, "back()", STUCK, () -> x.back());
        });
        promise(2, "row", () -> {
            for (int sort = 0; sort < 5; sort++) {
                int of = sort;
                c.granted(x, "row", 1, () -> x.row(of, of, 40));
                c.due("holds", x.holds(sort), sort);
                c.due("element", x.element(sort, 39), 0);
            }
            c.granted(x, "row of none", 1, () -> x.row(7, 0, 0));
            c.due("holds", x.holds(7), 0);
            c.due("shelves in use", x.status(7), 6);
            x.set(1, 5, 9);
            c.granted(x, "new row on a row", 1, () -> x.row(1, 1, 6));
            c.due("its element is 0", x.element(1, 5), 0);
            sixKinds();
            x.show(6, 2);
            c.granted(x, "row on a visitor", 1, () -> x.row(6, 3, 1));
            c.due("holds", x.holds(6), 3);
            c.refused(x, "row(-1, 0, 0)", BAD, () -> x.row(-1, 0, 0));
            c.refused(x, "row(8, 0, 0)", BAD, () -> x.row(8, 0, 0));
            c.refused(x, "row(0, -1, 0)", BAD, () -> x.row(0, -1, 0));
            c.refused(x, "row(0, 5, 0)", BAD, () -> x.row(0, 5, 0));
            c.refused(x, "row(0, 0, -1)", BAD, () -> x.row(0, 0, -1));
            c.refused(x, "row(0, 0, 41)", BAD, () -> x.row(0, 0, 41));
            c.refused(x, "row(0, 0, LOW)", BAD, () -> x.row(0, 0, LOW));
        });
        promise(3, "set", () -> {
            long v = 0x123456789ABCDEF0L;
            fill(0, 0, v, 128, -129, 255);
            fill(1, 1, v, 32768, -32769);
            fill(2, 2, v, 2147483648L, -2147483649L);
            fill(3, 3, v, Long.MIN_VALUE, Long.MAX_VALUE);
            fill(4, 4, v, 0, 4294967296L, -1);
            long[][] due = {{-16, -128, 127, -1}, {-8464, -32768, 32767}, {-1698898192, -2147483648L, 2147483647},
                {v, Long.MIN_VALUE, Long.MAX_VALUE}, {1, 0, 1, 1}};
            for (int s = 0; s < 5; s++) {
                for (int i = 0; i < due[s].length; i++) {
                    c.due("element(" + s + ", " + i + ")", x.element(s, i), due[s][i]);
                }
            }
            x.visitor(0, 0, 0);
            x.show(5, 0);
            c.refused(x, "set(-1)", BAD, () -> x.set(-1, 0, 0));
            c.refused(x, "set(8)", BAD, () -> x.set(8, -1, 0));
            c.refused(x, "set on a visitor", OTHER, () -> x.set(5, -1, 0));
            c.refused(x, "set on nothing", NOTHING, () -> x.set(6, -1, 0));
            c.refused(x, "set(0, -1)", BAD, () -> x.set(0, -1, 1));
            c.refused(x, "set(0, 4)", BAD, () -> x.set(0, 4, 1));
            c.refused(x, "set(0, HIGH)", BAD, () -> x.set(0, HIGH, 1));
        });
        promise(4, "copy", () -> {
            fill(0, 2, 1, 2, 3, 4, 5);
            fill(1, 2, 0, 0, 0);
            fill(2, 3, 7);
            c.granted(x, "copy on another", 2, () -> x.copy(0, 1, 3, 1, 2));
            c.due("element", x.element(1, 0), 0);
            c.due("element", x.element(1, 1), 4);
            c.due("element", x.element(1, 2), 5);
            c.granted(x, "copy on itself, up", 4, () -> x.copy(0, 0, 0, 1, 4));
            long[] up = {1, 1, 2, 3, 4};
            for (int i = 0; i < 5; i++) {
                c.due("element " + i, x.element(0, i), up[i]);
            }
            c.granted(x, "copy on itself, down", 3, () -> x.copy(0, 0, 2, 0, 3));
            long[] down = {2, 3, 4, 3, 4};
            for (int i = 0; i < 5; i++) {
                c.due("element " + i, x.element(0, i), down[i]);
            }
            c.asked(x, "copy none from the end", 0, () -> x.copy(0, 1, 5, 3, 0));
            c.granted(x, "copy all", 3, () -> x.copy(1, 0, 0, 2, 3));
            x.visitor(0, 0, 0);
            x.show(3, 0);
            c.refused(x, "p -1", BAD, () -> x.copy(-1, 3, 0, 0, 0));
            c.refused(x, "q 8", BAD, () -> x.copy(3, 8, 0, 0, 0));
            c.refused(x, "from a visitor to nothing", OTHER, () -> x.copy(3, 4, 0, 0, 0));
            c.refused(x, "from nothing to a visitor", OTHER, () -> x.copy(4, 3, 0, 0, 0));
            c.refused(x, "two sorts", OTHER, () -> x.copy(0, 2, -1, 0, 0));
            c.refused(x, "from nothing", NOTHING, () -> x.copy(4, 0, -1, 0, 0));
            c.refused(x, "to nothing", NOTHING, () -> x.copy(2, 4, -1, 0, 0));
            c.refused(x, "i -1", BAD, () -> x.copy(0, 1, -1, 0, 1));
            c.refused(x, "j -1", BAD, () -> x.copy(0, 1, 0, -1, 1));
            c.refused(x, "n -1", BAD, () -> x.copy(0, 1, 0, 0, -1));
            c.refused(x, "beyond p", BAD, () -> x.copy(0, 1, 4, 0, 2));
            c.refused(x, "beyond q", BAD, () -> x.copy(0, 1, 0, 2, 2));
            c.refused(x, "i beyond, none", BAD, () -> x.copy(0, 1, 6, 0, 0));
            c.refused(x, "all HIGH", BAD, () -> x.copy(0, 1, HIGH, HIGH, HIGH));
            c.refused(x, "n LOW", BAD, () -> x.copy(0, 1, 1, 1, LOW));
        });
        promise(5, "element", () -> {
            fill(0, 3, 5, -6);
            x.visitor(0, 0, 0);
            x.show(1, 0);
            int[][] none = {{0, -1}, {0, 2}, {0, HIGH}, {1, 0}, {2, 0}, {-1, 0}, {8, 0}};
            c.asked(x, "element(0, 0)", 5, () -> x.element(0, 0));
            c.asked(x, "element(0, 1)", -6, () -> x.element(0, 1));
            for (int[] n : none) {
                c.asked(x, "element(" + n[0] + ", " + n[1] + ")", 0, () -> x.element(n[0], n[1]));
            }
            x.row(0, 3, 1);
            c.due("element(0, 1) of the shorter row", x.element(0, 1), 0);
            x.row(0, 3, 40);
            c.asked(x, "element(0, 40) of the longest", 0, () -> x.element(0, 40));
        });
        promise(6, "holds", () -> {
            sixKinds();
            fill(0, 4, 1);
            x.show(1, 0);
            x.show(2, 5);
            c.asked(x, "holds(0)", 4, () -> x.holds(0));
            c.asked(x, "holds(1)", 10, () -> x.holds(1));
            c.asked(x, "holds(2)", 15, () -> x.holds(2));
            c.asked(x, "holds(3)", NONE, () -> x.holds(3));
            c.asked(x, "holds(-1)", NONE, () -> x.holds(-1));
            c.asked(x, "holds(8)", NONE, () -> x.holds(8));
        });
        promise(7, "show", () -> {
            c.refused(x, "nobody is there", BAD, () -> x.show(0, 0));
            sixKinds();
            fill(0, 2, 1);
            c.granted(x, "show(0, 3)", 1, () -> x.show(0, 3));
            c.due("holds(0)", x.holds(0), 13);
            c.granted(x, "show(0, NONE)", 1, () -> x.show(0, NONE));
            c.due("holds(0)", x.holds(0), NONE);
            c.granted(x, "show(1, NONE)", 1, () -> x.show(1, NONE));
            c.refused(x, "show(-1, 0)", BAD, () -> x.show(-1, 0));
            c.refused(x, "show(8, NONE)", BAD, () -> x.show(8, NONE));
            c.refused(x, "show(0, 6)", BAD, () -> x.show(0, 6));
            c.refused(x, "show(0, -2)", BAD, () -> x.show(0, -2));
        });
        promise(8, "says", () -> {
            sixKinds();
            for (int v = 0; v < 6; v++) {
                x.show(v, v);
            }
            x.row(6, 0, 1);
            int[][] due = {
                {6, OTHER, OTHER, OTHER, OTHER, OTHER},
                {5, 5, OTHER, OTHER, OTHER, OTHER},
                {12, OTHER, 7, OTHER, OTHER, OTHER},
                {2, 7, OTHER, 7, OTHER, OTHER},
                {10, OTHER, 7, OTHER, 7, OTHER},
                {20, OTHER, OTHER, OTHER, OTHER, 16}};
            for (int s = 0; s < 6; s++) {
                for (int kind = 0; kind < 6; kind++) {
                    int shelf = s;
                    int as = kind;
                    c.refused(x, "says(" + s + ", " + kind + ")", due[s][kind], () -> x.says(shelf, as));
                }
            }
            x.mark(3, 0, 0);
            feedText("saw 3 0; saw 3 1");
            x.view();
            c.due("an artist by his own kind", x.says(3, 1), 5);
            c.refused(x, "says(-1, 0)", BAD, () -> x.says(-1, 0));
            c.refused(x, "says(8, 0)", BAD, () -> x.says(8, 0));
            c.refused(x, "says(7, 6)", BAD, () -> x.says(7, 6));
            c.refused(x, "says(6, -1)", BAD, () -> x.says(6, -1));
            c.refused(x, "says of a row", OTHER, () -> x.says(6, 0));
            c.refused(x, "says of nothing", NOTHING, () -> x.says(7, 0));
        });
    }

    private void making() {
        promise(9, "paves", () -> {
            c.granted(x, "as many", 12, () -> x.paves(12));
            c.granted(x, "paves(14)", 12, () -> x.paves(14));
            c.granted(x, "paves(24)", 14, () -> x.paves(24));
            for (int cell = 0; cell < 24; cell++) {
                c.due("SHYNESS of " + cell, x.cellOf(cell, 0), Math.min(cell, 20));
                c.due("THING of " + cell, x.cellOf(cell, 1), cell % 10);
            }
            c.refused(x, "fewer", BAD, () -> x.paves(23));
            c.refused(x, "paves(25)", BAD, () -> x.paves(25));
            c.refused(x, "paves(LOW)", BAD, () -> x.paves(LOW));
            x.visitor(0, 0, 0);
            c.due("new cells are shown", x.shown(0, 1), (1 << 17) - 1);
        });
        promise(10, "visitor", () -> {
            c.refused(x, "kind -1", BAD, () -> x.visitor(-1, 0, 0));
            c.refused(x, "kind 6", BAD, () -> x.visitor(6, 0, 0));
            c.refused(x, "a -1", BAD, () -> x.visitor(0, -1, 0));
            c.refused(x, "a 10", BAD, () -> x.visitor(0, 10, 0));
            c.refused(x, "want -1", BAD, () -> x.visitor(0, 0, -1));
            c.refused(x, "want 21", BAD, () -> x.visitor(0, 0, 21));
            for (int i = 0; i < 8; i++) {
                int number = i;
                c.granted(x, "visitor " + i, i, () -> x.visitor(number % 6, 9, 20));
            }
            c.due("visitors", x.status(0), 8);
            c.due("seen", x.visitorOf(7, 3), 0);
            c.refused(x, "a ninth", FULL, () -> x.visitor(0, 0, 0));
            c.refused(x, "a bad ninth", BAD, () -> x.visitor(0, 0, 21));
        });
        promise(11, "wants", () -> {
            c.refused(x, "nobody is there", BAD, () -> x.wants(0, 0));
            sixKinds();
            c.granted(x, "wants(1, 20)", 5, () -> x.wants(1, 20));
            c.granted(x, "wants(1, 0)", 20, () -> x.wants(1, 0));
            c.due("want", x.visitorOf(1, 2), 0);
            c.due("want of another", x.visitorOf(0, 2), 6);
            c.due("open", x.open(1, 2), 8);
            c.refused(x, "wants(6, 0)", BAD, () -> x.wants(6, 0));
            c.refused(x, "wants(-1, 0)", BAD, () -> x.wants(-1, 0));
            c.refused(x, "wants(0, 21)", BAD, () -> x.wants(0, 21));
            c.refused(x, "wants(0, -1)", BAD, () -> x.wants(0, -1));
        });
        promise(12, "mark", () -> {
            sixKinds();
            c.granted(x, "mark(3, 0, 20)", 3, () -> x.mark(3, 0, 20));
            c.granted(x, "mark(3, 0, 0)", 20, () -> x.mark(3, 0, 0));
            c.granted(x, "mark(11, 1, 9)", 1, () -> x.mark(11, 1, 9));
            c.granted(x, "mark(11, 0, 2)", 11, () -> x.mark(11, 0, 2));
            c.due("SHYNESS", x.cellOf(11, 0), 2);
            c.due("THING", x.cellOf(11, 1), 9);
            c.due("shown", x.shown(1, 2), 0b100000111111);
            c.refused(x, "mark(12, 0, 0)", BAD, () -> x.mark(12, 0, 0));
            c.refused(x, "mark(-1, 0, 0)", BAD, () -> x.mark(-1, 0, 0));
            c.refused(x, "mark(0, 2, 0)", BAD, () -> x.mark(0, 2, 0));
            c.refused(x, "mark(0, -1, 0)", BAD, () -> x.mark(0, -1, 0));
            c.refused(x, "mark(0, 0, 21)", BAD, () -> x.mark(0, 0, 21));
            c.refused(x, "mark(0, 0, -1)", BAD, () -> x.mark(0, 0, -1));
            c.refused(x, "mark(0, 1, 10)", BAD, () -> x.mark(0, 1, 10));
        });
        promise(13, "tell", () -> {
            c.granted(x, "tell(0, 20)", 4, () -> x.tell(0, 20));
            c.granted(x, "tell(0, 0)", 20, () -> x.tell(0, 0));
            c.granted(x, "tell(1, 999)", 0, () -> x.tell(1, 999));
            c.granted(x, "tell(1, 0)", 999, () -> x.tell(1, 0));
            c.granted(x, "tell(0, 7)", 0, () -> x.tell(0, 7));
            c.due("VEIL", x.status(2), 7);
            c.due("DAY", x.status(3), 0);
            c.refused(x, "tell(0, 21)", BAD, () -> x.tell(0, 21));
            c.refused(x, "tell(0, -1)", BAD, () -> x.tell(0, -1));
            c.refused(x, "tell(1, 1000)", BAD, () -> x.tell(1, 1000));
            c.refused(x, "tell(1, -1)", BAD, () -> x.tell(1, -1));
            c.refused(x, "tell(2, 0)", BAD, () -> x.tell(2, 0));
            c.refused(x, "tell(-1, 0)", BAD, () -> x.tell(-1, 0));
        });
        promise(14, "feed", () -> {
            c.refused(x, "feed(-1)", BAD, () -> x.feed(-1));
            c.refused(x, "feed(256)", BAD, () -> x.feed(256));
            for (int i = 1; i <= 250; i++) {
                c.due("feed", x.feed(i + 5), i);
            }
            c.due("size", x.status(5), 250);
            c.refused(x, "feed(0)", FULL, () -> x.feed(0));
            c.refused(x, "feed(256)", BAD, () -> x.feed(256));
            x.wipe();
            c.granted(x, "feed(0)", 1, () -> x.feed(0));
            c.granted(x, "feed(255)", 2, () -> x.feed(255));
        });
        promise(15, "wipe", () -> {
            c.asked(x, "wipe()", 0, () -> x.wipe());
            feedText("veil 9");
            c.granted(x, "wipe()", 6, () -> x.wipe());
            c.due("size", x.status(5), 0);
            feedText("day 5");
            c.due("view()", x.view(), 1);
            c.due("VEIL", x.status(2), 4);
            c.due("DAY", x.status(3), 5);
        });
        promise(16, "view", this::views);
        promise(16, "view: what can't stand there", this::strays);
        promise(16, "view: what may not be", this::faults);
    }

    private void views() {
        reads("cells 14;visitor 3 9 20; shy 13 0; thing 13 4; saw 0 13; saw 0 2; veil 20; day 999", 8);
        int[] due = {1, 14, 20, 999, 2};
        for (int what = 0; what < due.length; what++) {
            c.due("status(" + what + ")", x.status(what), due[what]);
        }
        int[] visitor = {3, 9, 20, 1 << 13 | 4, 2};
        for (int what = 0; what < visitor.length; what++) {
            c.due("visitorOf(0, " + what + ")", x.visitorOf(0, what), visitor[what]);
        }
        c.due("SHYNESS", x.cellOf(13, 0), 0);
        c.due("THING", x.cellOf(13, 1), 4);
        c.due("shown", x.shown(0, 1), 1 << 13 | 1);
        reads("  veil003 ;cells14;cells 24  ", 3);
        c.due("VEIL", x.status(2), 3);
        c.due("CELLS", x.status(1), 24);
        c.due("what comes is added", x.status(0), 1);
        reads("shy 23 7;thing 23 8", 2);
        c.due("SHYNESS of the last", x.cellOf(23, 0), 7);
        c.due("THING of the last", x.cellOf(23, 1), 8);
        reads("veil 1;veil 2;veil 0", 3);
        c.due("VEIL", x.status(2), 0);
        reads("visitor0 0 0;visitor 0 0 0;visitor 0 0 0;visitor 0 0 0;visitor 0 0 0;visitor 0 0 0;visitor 5 0 0", 7);
        c.due("VISITORS", x.status(0), 8);
        c.due("the first has seen as ahead", x.visitorOf(0, 3), 1 << 13 | 4);
        reads("saw 7 23; saw 0 0", 2);
        c.due("SEEN", x.visitorOf(7, 3), 1 << 23);
        c.due("SEEN", x.visitorOf(0, 3), 1 << 13 | 5);
        reads("veil 5;visitor 0 0 0", -27);
        reads("visitor", -20);
        reads("visitor 6 0 0", -20);
    }

    private void strays() {
        reads("", -20);
        reads("   ", -23);
        reads("veil", -24);
        reads("veil ", -25);
        reads("veil 3;", -27);
        reads("veil 3 ; ", -29);
        reads(";", -20);
        reads("veil 3;;", -27);
        reads("3", -20);
        reads(" veils 3", -21);
        reads("vei 3", -20);
        reads("Veil 3", -20);
        reads("veilz 3", -20);
        reads("aveil 3", -20);
        reads("xeil 3", -20);
        reads("veix 3", -20);
        reads("veil {", -25);
        reads("veil`3", -24);
        reads("veil x", -25);
        reads("veil ;", -25);
        reads("veil -1", -25);
        reads("veil 21", -25);
        reads("veil 0003", -25);
        reads("veil 3 4", -27);
        reads("veil 3 day 4", -27);
        reads("veil 3day 4", -26);
        reads("veil 3\n", -26);
        reads("veil 3" + (char) 160, -26);
        reads("veil" + (char) 0 + "3", -24);
    }

    private void faults() {
        reads("day 999; day 1000", -33);
        reads("cells 11", -26);
        reads("cells 25", -26);
        reads("cells 13;cells 12", -35);
        reads("visitor 6 0 0", -28);
        reads("visitor 0 10 0", -30);
        reads("visitor 0 0 21", -32);
        reads("visitor 0 0", -31);
        reads("shy 12 0", -24);
        reads("shy 0 21", -26);
        reads("thing 12 0", -26);
        reads("thing 0 10", -28);
        reads("saw 0 0", -24);
        reads("visitor 0 0 0;saw 1 0", -38);
        reads("visitor 0 0 0;saw 0 12", -40);
        reads("cells 24;shy 23 5;thing 24 0", -44);
        reads("saw", -23);
        c.due("nothing came", x.status(0), 0);
        c.due("nothing came", x.status(1), 12);
        reads("cells 13;shy 12 5", 2);
    }

    private void asking() {
        promise(17, "visitorOf", () -> {
            c.refused(x, "nobody is there", BAD, () -> x.visitorOf(0, 0));
            sixKinds();
            feedText("saw 4 0;saw 4 11");
            x.view();
            int[] due = {4, 1, 10, 2049, 2};
            for (int what = 0; what < 5; what++) {
                int of = what;
                c.asked(x, "visitorOf(4, " + what + ")", due[what], () -> x.visitorOf(4, of));
            }
            c.refused(x, "visitorOf(6, 0)", BAD, () -> x.visitorOf(6, 0));
            c.refused(x, "visitorOf(-1, 0)", BAD, () -> x.visitorOf(-1, 0));
            c.refused(x, "visitorOf(0, 5)", BAD, () -> x.visitorOf(0, 5));
            c.refused(x, "visitorOf(0, -1)", BAD, () -> x.visitorOf(0, -1));
        });
        promise(18, "cellOf", () -> {
            sixKinds();
            feedText("saw 4 11;saw 0 11;shy 11 17;thing 11 8");
            x.view();
            int[] due = {17, 8, 17};
            for (int what = 0; what < 3; what++) {
                int of = what;
                c.asked(x, "cellOf(11, " + what + ")", due[what], () -> x.cellOf(11, of));
            }
            c.refused(x, "cellOf(12, 0)", BAD, () -> x.cellOf(12, 0));
            c.refused(x, "cellOf(-1, 0)", BAD, () -> x.cellOf(-1, 0));
            c.refused(x, "cellOf(0, 3)", BAD, () -> x.cellOf(0, 3));
            c.refused(x, "cellOf(0, -1)", BAD, () -> x.cellOf(0, -1));
        });
        promise(19, "open", () -> {
            sixKinds();
            int[][] due = {{0, 1, 10}, {1, 2, 5}, {2, 4, 7}, {3, 8, 7}, {4, 16, 7}, {5, 32, 16}, {0, 3, 8},
                {0, 33, 11}, {0, 63, 7}, {1, 10, 3}, {3, 10, 5}, {4, 17, 12}, {4, 63, 9}, {5, 63, 12}, {2, 63, 4}};
            for (int[] d : due) {
                c.asked(x, "open(" + d[0] + ", " + d[1] + ")", d[2], () -> x.open(d[0], d[1]));
            }
            feedText("saw 3 0;saw 3 1;saw 3 2");
            x.view();
            c.due("an artist who saw 3", x.open(3, 8), 4);
            x.wants(0, 20);
            x.wants(2, 20);
            x.wants(4, 20);
            c.due("wants too much", x.open(0, 1), 0);
            c.due("an idler has a left", x.open(2, 4), 3);
            c.due("a driver with one", x.open(4, 17), 6);
            c.due("never below 0", x.open(0, 11), 0);
            x.tell(0, 0);
            x.wants(2, 0);
            c.due("never above 20", x.open(2, 4), 20);
            c.due("20 and 3, 2 less", x.open(2, 6), 20);
            c.due("20 and 3, 4 less", x.open(2, 14), 19);
            x.tell(0, 20);
            c.due("a child behind a full veil", x.open(5, 32), 0);
            refusedInGroups("open", (v, g) -> x.open(v, g));
        });
        promise(20, "shown", () -> {
            sixKinds();
            int[][] due = {{0, 1, 2047}, {1, 2, 63}, {5, 32, 4095}, {0, 63, 255}, {1, 10, 15}, {4, 17, 4095}};
            for (int[] d : due) {
                c.asked(x, "shown(" + d[0] + ", " + d[1] + ")", d[2], () -> x.shown(d[0], d[1]));
            }
            x.mark(0, 0, 11);
            c.due("by SHYNESS", x.shown(0, 1), 2046);
            c.due("OPEN at most", x.shown(0, 33), 4095);
            refusedInGroups("shown", (v, g) -> x.shown(v, g));
        });
        promise(21, "known", () -> {
            c.asked(x, "known(0)", 0, () -> x.known(0));
            c.refused(x, "known(1)", BAD, () -> x.known(1));
            sixKinds();
            feedText("saw 0 0;saw 1 3;saw 5 3;saw 5 4");
            x.view();
            int[][] due = {{0, 0}, {1, 1}, {2, 8}, {33, 25}, {63, 25}, {28, 0}};
            for (int[] d : due) {
                c.asked(x, "known(" + d[0] + ")", d[1], () -> x.known(d[0]));
            }
            refusedGroups("known", g -> x.known(g));
        });
        promise(22, "fresh", () -> {
            sixKinds();
            feedText("saw 5 0;saw 5 3");
            x.view();
            int[][] due = {{0, 0}, {2, 0b110110}, {3, 0b111110110}, {32, 0b111111110110}, {10, 0b110110}};
            for (int[] d : due) {
                c.asked(x, "fresh(" + d[0] + ")", d[1], () -> x.fresh(d[0]));
            }
            refusedGroups("fresh", g -> x.fresh(g));
        });
        promise(23, "veilThen", () -> {
            sixKinds();
            int[][] due = {{1, 4}, {2, 5}, {8, 5}, {10, 6}, {32, 3}, {63, 5}, {20, 4}, {34, 4}};
            for (int[] d : due) {
                c.asked(x, "veilThen(" + d[0] + ")", d[1], () -> x.veilThen(d[0]));
            }
            x.tell(0, 19);
            c.due("20 at most", x.veilThen(10), 20);
            c.due("together, then at most", x.veilThen(42), 20);
            x.tell(0, 0);
            c.due("0 at least", x.veilThen(32), 0);
            c.refused(x, "nobody", BAD, () -> x.veilThen(0));
            refusedGroups("veilThen", g -> x.veilThen(g));
        });
    }

    private interface OfTwo {
        int of(int one, int other);
    }

    private interface OfOne {
        int of(int one);
    }

    private void refusedInGroups(String name, OfTwo call) {
        int[][] bad = {{0, 2}, {0, 0}, {6, 1}, {6, 64}, {-1, 1}, {0, 65}, {0, -1}, {0, LOW + 1}, {HIGH, HIGH}};
        for (int[] b : bad) {
            c.refused(x, name + "(" + b[0] + ", " + b[1] + ")", BAD, () -> call.of(b[0], b[1]));
        }
    }

    private void refusedGroups(String name, OfOne call) {
        int[] bad = {64, -1, LOW, HIGH, 65};
        for (int b : bad) {
            c.refused(x, name + "(" + b + ")", BAD, () -> call.of(b));
        }
    }

    private void refusedVisitorAndCell(String name, OfTwo call) {
        int[][] bad = {{6, 0}, {-1, 0}, {0, 12}, {0, -1}, {HIGH, HIGH}};
        for (int[] b : bad) {
            c.refused(x, name + "(" + b[0] + ", " + b[1] + ")", BAD, () -> call.of(b[0], b[1]));
        }
    }

    private void comingOfIt() {
        promise(24, "send", () -> {
            c.asked(x, "send(1)", NONE, () -> x.send(1));
            sixKinds();
            c.asked(x, "send(1)", 32, () -> x.send(1));
            c.asked(x, "send(2)", 17, () -> x.send(2));
            c.asked(x, "send(6)", 63, () -> x.send(6));
            c.asked(x, "send(7)", NONE, () -> x.send(7));
            c.asked(x, "send(8)", NONE, () -> x.send(8));
            x.visit(32);
            c.due("nothing is new: the least", x.send(3), 7);
            c.refused(x, "send(0)", BAD, () -> x.send(0));
            c.refused(x, "send(9)", BAD, () -> x.send(9));
            c.refused(x, "send(LOW)", BAD, () -> x.send(LOW));
        });
        promise(25, "fewest", () -> {
            c.asked(x, "fewest(0)", 0, () -> x.fewest(0));
            c.asked(x, "fewest(1)", NONE, () -> x.fewest(1));
            sixKinds();
            c.asked(x, "fewest(0)", 0, () -> x.fewest(0));
            c.asked(x, "fewest(1)", 1, () -> x.fewest(1));
            c.asked(x, "fewest(2048)", 32, () -> x.fewest(2048));
            c.asked(x, "fewest(4095)", 32, () -> x.fewest(4095));
            x.wants(0, 16);
            x.mark(11, 0, 20);
            x.mark(10, 0, 17);
            c.asked(x, "a child alone does not do", NONE, () -> x.fewest(0b010000000000));
            x.visitor(5, 0, 0);
            c.asked(x, "two children do", 96, () -> x.fewest(0b010000000000));
            c.asked(x, "fewest(2048)", NONE, () -> x.fewest(2048));
            c.refused(x, "fewest(4096)", BAD, () -> x.fewest(4096));
            c.refused(x, "fewest(-1)", BAD, () -> x.fewest(-1));
            c.refused(x, "fewest(LOW)", BAD, () -> x.fewest(LOW));
        });
        promise(26, "order", this::orders);
        promise(27, "how", () -> {
            sixKinds();
            x.paves(24);
            c.asked(x, "how(0, 16)", 0, () -> x.how(0, 16));
            c.asked(x, "how(0, 17)", NONE, () -> x.how(0, 17));
            c.asked(x, "how(1, 8)", 0, () -> x.how(1, 8));
            c.asked(x, "how(1, 9)", NONE, () -> x.how(1, 9));
            c.asked(x, "how(4, 18)", NONE, () -> x.how(4, 18));
            c.asked(x, "how(4, 17)", 0, () -> x.how(4, 17));
            c.asked(x, "how(5, 16)", 0, () -> x.how(5, 16));
            c.asked(x, "how(5, 17)", NONE, () -> x.how(5, 17));
            c.refused(x, "how(0, 24)", BAD, () -> x.how(0, 24));
            c.refused(x, "how(6, 0)", BAD, () -> x.how(6, 0));
            c.refused(x, "how(-1, 0)", BAD, () -> x.how(-1, 0));
            c.refused(x, "how(0, -1)", BAD, () -> x.how(0, -1));
        });
        promise(28, "lifted", () -> {
            sixKinds();
            int[][] due = {{0, 0, 14 + 6}, {0, 10, 4}, {0, 11, 3}, {1, 5, 5}, {1, 8, NONE}, {5, 11, 9}, {2, 3, 20},
                {2, 4, 7}, {4, 2, 9}};
            for (int[] d : due) {
                c.asked(x, "lifted(" + d[0] + ", " + d[1] + ", 1)", d[2], () -> x.lifted(d[0], d[1], 1));
                c.asked(x, "lifted(" + d[0] + ", " + d[1] + ", 0)", d[2] == NONE ? NONE : 0,
                        () -> x.lifted(d[0], d[1], 0));
            }
            c.refused(x, "what 2", BAD, () -> x.lifted(0, 0, 2));
            c.refused(x, "what -1", BAD, () -> x.lifted(0, 0, -1));
            refusedVisitorAndCell("lifted", (v, cell) -> x.lifted(v, cell, 0));
        });
        promise(29, "register", this::registers);
        promise(30, "fits", this::fitting);
        promise(31, "together", () -> {
            c.asked(x, "nobody", NONE, () -> x.together());
            reads("cells 12;visitor 5 0 0;visitor 5 0 0;visitor 0 0 0", 4);
            c.asked(x, "nothing seen", NONE, () -> x.together());
            x.visit(1);
            c.asked(x, "one knows all, two nothing", 3, () -> x.together());
            x.visit(2);
            c.asked(x, "two know all", 2, () -> x.together());
            x.tell(0, 0);
            x.visit(4);
            c.asked(x, "each knows all", 1, () -> x.together());
            x.paves(13);
            c.asked(x, "a new cell", NONE, () -> x.together());
            x = Used.face();
            for (int visitor = 0; visitor < 3; visitor++) {
                x.visitor(0, 0, 0);
                for (int cell = 0; cell < 12; cell++) {
                    if (cell != visitor) {
                        reads("saw " + visitor + " " + cell, 1);
                    }
                }
            }
            c.asked(x, "each lacks one, any two know all", 2, () -> x.together());
            reads("saw 1 1;saw 2 2", 2);
            c.asked(x, "the first cell alone is lacked", 2, () -> x.together());
            x.visitor(0, 0, 0);
            c.asked(x, "one more who knows nothing", 3, () -> x.together());
        });
        promise(32, "needed", () -> {
            c.asked(x, "nobody", 0, () -> x.needed());
            sixKinds();
            c.asked(x, "nothing seen", 0, () -> x.needed());
            reads("saw 0 0;saw 1 0;saw 1 1;saw 5 11;saw 4 0", 5);
            c.asked(x, "needed", 34, () -> x.needed());
            reads("saw 0 5", 1);
            c.asked(x, "needed", 35, () -> x.needed());
        });
        promise(33, "picture", this::pictures);
        promise(34, "lift", this::lifts);
        promise(35, "chance", () -> {
            sixKinds();
            int[][] due = {{0, 0, 1000000}, {0, 1, 16 * 1000000 / 21}, {0, 11, 6 * 1000000 / 21}, {1, 8, 1000000 / 21},
                {1, 9, 0}, {5, 11, 1000000}, {2, 3, 1000000}, {2, 4, 16 * 1000000 / 21}};
            for (int[] d : due) {
                c.asked(x, "chance(" + d[0] + ", " + d[1] + ")", d[2], () -> x.chance(d[0], d[1]));
            }
            c.due("cut", x.chance(0, 1), 761904);
            refusedVisitorAndCell("chance", (v, cell) -> x.chance(v, cell));
        });
        promise(36, "mean", () -> {
            sixKinds();
            // OPEN 16 down to 0, then 0 four times more; 12 cells at most
            int cells = 12 * 6 + 66 + 4;
            c.asked(x, "mean(0)", 1000 * cells / 21, () -> x.mean(0));
            c.asked(x, "mean(5)", 12000, () -> x.mean(5));
            // 8, 7 7, 6 6 .. 0 0 and 0 four times more, one cell more each
            c.asked(x, "mean(1)", 1000 * (9 + 2 * 36 + 4) / 21, () -> x.mean(1));
            c.refused(x, "mean(6)", BAD, () -> x.mean(6));
            c.refused(x, "mean(-1)", BAD, () -> x.mean(-1));
        });
    }

    private void orders() {
        c.asked(x, "order(0, NONE)", 0, () -> x.order(0, NONE));
        c.refused(x, "order(0, 0)", STUCK, () -> x.order(0, 0));
        // An asker ahead lets down VEIL for the visitor; the child ahead lifts it for both.
        reads("visitor 1 0 20;visitor 0 0 8;visitor 5 0 0;saw 2 10;shy 11 20", 5);
        c.asked(x, "asker and visitor", 10, () -> x.order(3, NONE));
        c.asked(x, "visitor first", 1, () -> x.order(3, 0));
        c.asked(x, "asker then", 0, () -> x.order(3, 1));
        c.asked(x, "no third", 11, () -> x.order(6, NONE));
        c.asked(x, "all alike: by rows", 0, () -> x.order(7, 0));
        c.asked(x, "all alike: by rows", 1, () -> x.order(7, 1));
        c.asked(x, "all alike: by rows", 2, () -> x.order(7, 2));
        c.refused(x, "order(3, 2)", STUCK, () -> x.order(3, 2));
        c.refused(x, "order(3, HIGH)", STUCK, () -> x.order(3, HIGH));
        c.refused(x, "order(3, -2)", BAD, () -> x.order(3, -2));
        c.refused(x, "order(8, 9)", BAD, () -> x.order(8, 9));
        c.refused(x, "order(-1, NONE)", BAD, () -> x.order(-1, NONE));
        x.paves(24);
        c.asked(x, "the asker last", 16, () -> x.order(7, NONE));
        c.asked(x, "the first by rows", 1, () -> x.order(7, 0));
        c.asked(x, "the first by rows", 2, () -> x.order(7, 1));
        c.asked(x, "the first by rows", 0, () -> x.order(7, 2));
        reads("visitor 0 0 20;visitor 0 0 20;visitor 0 0 20;visitor 0 0 20", 4);
        c.asked(x, "six of seven", 10, () -> x.order(123, NONE));
        c.asked(x, "the fifth is the last but one by rows", 5, () -> x.order(123, 4));
        c.asked(x, "the asker behind the visitor", 0, () -> x.order(123, 1));
        c.asked(x, "the sixth is the last by rows", 6, () -> x.order(123, 5));
        c.refused(x, "seven", BAD, () -> x.order(127, NONE));
    }

    private void registers() {
        sixKinds();
        x.show(1, 0);
        fill(0, 2, 0, 1 << 5, 1, 0, 5, 4095);
        c.asked(x, "no twos: least", 0, () -> x.register(0, 0, 5, 0));
        c.asked(x, "no twos: greatest", 20, () -> x.register(0, 0, 5, 1));
        c.asked(x, "no twos: how many", 21, () -> x.register(0, 0, 5, 2));
        c.asked(x, "one two: greatest", 10, () -> x.register(0, 1, 5, 1));
        c.asked(x, "one two: least", 0, () -> x.register(0, 1, 5, 0));
        c.asked(x, "two: least", 6, () -> x.register(0, 2, 5, 0));
        c.asked(x, "two: greatest", 10, () -> x.register(0, 2, 5, 1));
        c.asked(x, "two: how many", 5, () -> x.register(0, 2, 5, 2));
        c.asked(x, "three", 5, () -> x.register(0, 3, 5, 2));
        c.asked(x, "another cell: least", 11, () -> x.register(0, 3, 4, 0));
        c.asked(x, "another cell: greatest", 16, () -> x.register(0, 3, 4, 1));
        fill(2, 3, 1, 1L << 40 | 1, 0, 0);
        c.asked(x, "none fits: least", NONE, () -> x.register(2, 2, 0, 0));
        c.asked(x, "none fits: greatest", NONE, () -> x.register(2, 2, 0, 1));
        c.asked(x, "none fits: how many", 0, () -> x.register(2, 2, 0, 2));
        fill(3, 0, 5, -1, 6, 0, -1, 0);
        c.asked(x, "a byte's sign goes through", 17, () -> x.register(3, 1, 11, 2));
        c.refused(x, "shelf -1", BAD, () -> x.register(-1, 0, 0, 0));
        c.refused(x, "shelf 8", BAD, () -> x.register(8, 0, 0, 0));
        c.refused(x, "n -1", BAD, () -> x.register(1, -1, 0, 0));
        c.refused(x, "n 21", BAD, () -> x.register(1, 21, 0, 0));
        c.refused(x, "n LOW", BAD, () -> x.register(0, LOW, 0, 0));
        c.refused(x, "cell 12", BAD, () -> x.register(1, 0, 12, 0));
        c.refused(x, "cell -1", BAD, () -> x.register(7, 0, -1, 0));
        c.refused(x, "what 3", BAD, () -> x.register(7, 0, 0, 3));
        c.refused(x, "what -1", BAD, () -> x.register(7, 0, 0, -1));
        c.refused(x, "a visitor", OTHER, () -> x.register(1, 20, 0, 0));
        c.refused(x, "nothing", NOTHING, () -> x.register(7, 20, 0, 0));
        c.refused(x, "fewer elements", BAD, () -> x.register(3, 4, 0, 0));
        c.refused(x, "no such visitor", STUCK, () -> x.register(3, 2, 0, 0));
        x.set(3, 2, 0);
        c.refused(x, "visitor -1", STUCK, () -> x.register(3, 3, 0, 0));
        fill(4, 3, 1L << 32, 0);
        c.refused(x, "a visitor beyond int", STUCK, () -> x.register(4, 1, 0, 0));
        c.asked(x, "not among the first", 21, () -> x.register(4, 0, 0, 2));
    }

    private void fitting() {
        sixKinds();
        x.show(1, 0);
        fill(0, 2, 4, 255, 9, 7);
        c.asked(x, "no twos: kinds", 63, () -> x.fits(0, 0, 2, 0));
        c.asked(x, "no twos: wants", (1 << 21) - 1, () -> x.fits(0, 0, 2, 1));
        // v2: a 3, want 12: VISITOR 4, ASKER 2, IDLER 7, ARTIST 2, DRIVER 7, CHILD 16
        c.asked(x, "one two: kinds", 20, () -> x.fits(0, 1, 2, 0));
        c.asked(x, "one two: wants", 1 << 12, () -> x.fits(0, 1, 2, 1));
        // by VEIL 9 an OPEN of 2: none, the idler's a alone is 3
        c.asked(x, "two: kinds", 0, () -> x.fits(0, 2, 2, 0));
        x.set(0, 3, 15);
        c.asked(x, "two: kinds", 20, () -> x.fits(0, 2, 2, 0));
        c.asked(x, "two: wants", 1 << 12, () -> x.fits(0, 2, 2, 1));
        fill(2, 2, 20, 1);
        c.asked(x, "VEIL 20", 0b101011, () -> x.fits(2, 1, 2, 0));
        c.asked(x, "VEIL 20", (1 << 21) - 1, () -> x.fits(2, 1, 0, 1));
        x.set(2, 0, 4);
        x.set(2, 1, 255);
        c.asked(x, "an asker halves: two wants", 3 << 1, () -> x.fits(2, 1, 1, 1));
        reads("saw 3 0;saw 3 9", 2);
        fill(3, 2, 4, 63);
        c.asked(x, "an artist who saw two", 8, () -> x.fits(3, 1, 3, 0) & 8);
        fill(4, 3, 4, 1L << 32 | 255);
        c.asked(x, "all its bits", 0, () -> x.fits(4, 1, 2, 0));
        fill(5, 0, 4, 255);
        c.asked(x, "a byte is -1", 0, () -> x.fits(5, 1, 2, 0));
        c.refused(x, "shelf -1", BAD, () -> x.fits(-1, 0, 0, 0));
        c.refused(x, "n 21", BAD, () -> x.fits(1, 21, 0, 0));
        c.refused(x, "n -1", BAD, () -> x.fits(7, -1, 0, 0));
        c.refused(x, "visitor 6", BAD, () -> x.fits(7, 0, 6, 0));
        c.refused(x, "what 2", BAD, () -> x.fits(1, 0, 0, 2));
        c.refused(x, "a visitor", OTHER, () -> x.fits(1, 20, 0, 0));
        c.refused(x, "nothing", NOTHING, () -> x.fits(7, 20, 0, 0));
        c.refused(x, "fewer elements", BAD, () -> x.fits(0, 3, 0, 0));
        fill(6, 3, 21, 0, -1, 0, 1L << 32, 0);
        c.refused(x, "VEIL 21", STUCK, () -> x.fits(6, 1, 0, 0));
        x.set(6, 0, 20);
        c.refused(x, "VEIL -1", STUCK, () -> x.fits(6, 2, 0, 1));
        x.set(6, 2, 0);
        c.refused(x, "VEIL beyond int", STUCK, () -> x.fits(6, 3, 0, 1));
    }

    private void pictures() {
        sixKinds();
        x.show(1, 0);
        reads("saw 0 2;saw 0 3;saw 0 11", 3);
        fill(0, 2, 2, 3, 4);
        // THINGS: 2 at 2, 3 at 3, 1 at 11; shifts 0 to 9
        c.asked(x, "picture(0, 3, 0)", 0b11110100, () -> x.picture(0, 3, 0) & 0b11111111);
        c.asked(x, "it must not go beyond", 0b0111110100, () -> x.picture(0, 3, 0));
        c.asked(x, "who saw nothing", 1023, () -> x.picture(0, 3, 1));
        c.asked(x, "one element", 0b11111110111, () -> x.picture(0, 1, 0));
        c.asked(x, "no element", (1 << 13) - 1, () -> x.picture(0, 0, 0));
        fill(2, 0, 0, 1, 2, 3, 4, 5, 6, 7, 8, 9, 0, 1, 0);
        c.asked(x, "all", 1, () -> x.picture(2, 12, 0));
        c.asked(x, "more than there are", 0, () -> x.picture(2, 13, 0));
        fill(3, 3, 1L << 32 | 2);
        c.asked(x, "all its bits", 0, () -> x.picture(3, 1, 0) & 4);
        c.refused(x, "shelf 8", BAD, () -> x.picture(8, 0, 0));
        c.refused(x, "n 25", BAD, () -> x.picture(1, 25, 0));
        c.refused(x, "n -1", BAD, () -> x.picture(7, -1, 0));
        c.refused(x, "visitor 6", BAD, () -> x.picture(7, 0, 6));
        c.refused(x, "visitor -1", BAD, () -> x.picture(1, 0, -1));
        c.refused(x, "a visitor", OTHER, () -> x.picture(1, 24, 0));
        c.refused(x, "nothing", NOTHING, () -> x.picture(7, 24, 0));
        c.refused(x, "fewer elements", BAD, () -> x.picture(0, 4, 0));
    }

    private void lifts() {
        c.asked(x, "nobody: VEIL", 4, () -> x.lift(4, 0));
        c.asked(x, "nobody: whom", NONE, () -> x.lift(4, 1));
        reads("visitor 1 0 0;visitor 0 0 0;visitor 5 0 0;visitor 5 0 0", 4);
        c.asked(x, "no turn: VEIL", 4, () -> x.lift(0, 0));
        c.asked(x, "no turn: whom", NONE, () -> x.lift(0, 1));
        c.asked(x, "one turn", 3, () -> x.lift(1, 0));
        c.asked(x, "one turn: whom", 2, () -> x.lift(1, 1));
        c.asked(x, "two turns", 4, () -> x.lift(2, 0));
        c.asked(x, "two turns: whom", 2, () -> x.lift(2, 1));
        c.asked(x, "three turns", 3, () -> x.lift(3, 0));
        c.asked(x, "three turns: whom", 2, () -> x.lift(3, 1));
        c.asked(x, "four turns", 3, () -> x.lift(4, 0));
        x.tell(0, 0);
        c.asked(x, "0 at least: all alike but the asker", 1, () -> x.lift(2, 0));
        c.asked(x, "four from 0", 0, () -> x.lift(4, 0));
        c.asked(x, "four from 0: whom", 0, () -> x.lift(4, 1));
        lifts("visitor 1 0 0;visitor 3 0 0", 4, 5, 6, 6, 6);
        lifts("visitor 1 0 0;visitor 0 0 0", 4, 4, 5, 5, 5);
        lifts("visitor 5 0 0;visitor 1 0 0;visitor 5 0 0;visitor 3 0 0", 4, 3, 4, 3, 4);
        lifts("visitor 0 0 0;visitor 0 0 0;visitor 0 0 0", 4, 4, 4, 4, 4);
        lifts("visitor 5 0 0;visitor 5 0 0;visitor 5 0 0;visitor 0 0 0", 4, 3, 3, 2, 1);
        x = Used.face();
        feedText("visitor 1 0 0;visitor 3 0 0");
        x.view();
        x.tell(0, 19);
        c.asked(x, "20 at most", 20, () -> x.lift(2, 0));
        c.asked(x, "the first of two", 0, () -> x.lift(2, 1));
        x = Used.face();
        x.visitor(1, 0, 0);
        c.asked(x, "none is left", 5, () -> x.lift(4, 0));
        c.asked(x, "he must go", 0, () -> x.lift(1, 1));
        c.refused(x, "n 5", BAD, () -> x.lift(5, 0));
        c.refused(x, "n -1", BAD, () -> x.lift(-1, 0));
        c.refused(x, "what 2", BAD, () -> x.lift(1, 2));
        c.refused(x, "what -1", BAD, () -> x.lift(1, -1));
    }

    /** VEIL that is due by no turn, one, two .. */
    private void lifts(String told, int... due) {
        x = Used.face();
        feedText(told);
        x.view();
        for (int n = 0; n < due.length; n++) {
            int turns = n;
            c.asked(x, told + ": lift(" + n + ", 0)", due[n], () -> x.lift(turns, 0));
        }
    }

    private void manyMore() {
        promise(37, "hidden", () -> {
            c.asked(x, "nobody", 4095, () -> x.hidden());
            x.visitor(0, 0, 6);
            c.asked(x, "hidden()", 2048, () -> x.hidden());
            x.visitor(0, 0, 8);
            c.asked(x, "who sees less hides nothing", 2048, () -> x.hidden());
            x.visitor(5, 0, 0);
            c.asked(x, "nothing", 0, () -> x.hidden());
            x.tell(0, 11);
            c.asked(x, "behind a veil", 0b110000000000, () -> x.hidden());
        });
        promise(38, "best", () -> {
            c.refused(x, "nobody", STUCK, () -> x.best(0));
            c.refused(x, "nobody, what 2", BAD, () -> x.best(2));
            sixKinds();
            c.asked(x, "best(0)", 5, () -> x.best(0));
            c.asked(x, "best(1)", 12, () -> x.best(1));
            x.wants(0, 0);
            c.asked(x, "of several the first", 0, () -> x.best(0));
            x.tell(0, 20);
            c.asked(x, "the idler has his a", 2, () -> x.best(0));
            c.asked(x, "four cells", 4, () -> x.best(1));
            c.refused(x, "what -1", BAD, () -> x.best(-1));
        });
        promise(39, "mate", () -> {
            x.visitor(0, 0, 6);
            c.asked(x, "nobody else", NONE, () -> x.mate(0));
            x.visitor(1, 0, 6);
            c.asked(x, "the only one", 1, () -> x.mate(0));
            c.asked(x, "the only one", 0, () -> x.mate(1));
            x.visitor(2, 0, 6);
            x.visitor(0, 0, 6);
            c.asked(x, "of several the first", 2, () -> x.mate(0));
            x.visitor(5, 0, 6);
            c.asked(x, "a child opens", 4, () -> x.mate(0));
            c.asked(x, "not himself", 0, () -> x.mate(4));
            c.refused(x, "mate(5)", BAD, () -> x.mate(5));
            c.refused(x, "mate(-1)", BAD, () -> x.mate(-1));
        });
        promise(40, "rarest", () -> {
            c.asked(x, "all alike", 0, () -> x.rarest(0));
            c.asked(x, "all alike", 0, () -> x.rarest(1));
            sixKinds();
            reads("saw 0 0;saw 1 0;saw 0 1;saw 0 2;saw 1 2;saw 3 11", 6);
            c.asked(x, "rarest(0)", 3, () -> x.rarest(0));
            c.asked(x, "rarest(1)", 0, () -> x.rarest(1));
            reads("saw 4 11;saw 5 11", 2);
            c.asked(x, "rarest(1)", 11, () -> x.rarest(1));
            c.refused(x, "rarest(2)", BAD, () -> x.rarest(2));
            c.refused(x, "rarest(-1)", BAD, () -> x.rarest(-1));
        });
        promise(41, "both", () -> {
            sixKinds();
            reads("saw 0 0;saw 1 0;saw 0 1;saw 0 2;saw 1 2;saw 3 11", 6);
            c.asked(x, "both(0, 1)", 2, () -> x.both(0, 1));
            c.asked(x, "both(1, 0)", 2, () -> x.both(1, 0));
            c.asked(x, "both(0, 3)", 0, () -> x.both(0, 3));
            c.refused(x, "the same", BAD, () -> x.both(0, 0));
            c.refused(x, "both(0, 6)", BAD, () -> x.both(0, 6));
            c.refused(x, "both(-1, 0)", BAD, () -> x.both(-1, 0));
        });
        promise(42, "visitsTill", () -> {
            sixKinds();
            x.paves(24);
            reads("saw 0 23", 1);
            c.asked(x, "seen already", 0, () -> x.visitsTill(0, 23));
            c.asked(x, "at once", 1, () -> x.visitsTill(0, 10));
            c.asked(x, "never", NONE, () -> x.visitsTill(0, 11));
            c.asked(x, "a child lifts it: OPEN 20", 5, () -> x.visitsTill(5, 20));
            c.asked(x, "a child lifts it: OPEN 18", 3, () -> x.visitsTill(5, 18));
            c.asked(x, "an asker shuts it", NONE, () -> x.visitsTill(1, 6));
            x.tell(0, 20);
            c.asked(x, "twenty and one", 21, () -> x.visitsTill(5, 20));
            refusedVisitorAndCellOf24("visitsTill", (v, cell) -> x.visitsTill(v, cell));
        });
        promise(43, "who", () -> {
            c.asked(x, "nobody", 0, () -> x.who(0));
            sixKinds();
            int[][] due = {{0, 63}, {5, 63}, {6, 61}, {8, 33}, {11, 32}};
            for (int[] d : due) {
                c.asked(x, "who(" + d[0] + ")", d[1], () -> x.who(d[0]));
            }
            c.refused(x, "who(12)", BAD, () -> x.who(12));
            c.refused(x, "who(-1)", BAD, () -> x.who(-1));
        });
        promise(44, "company", () -> {
            sixKinds();
            c.asked(x, "a child opens", 33, () -> x.company(0));
            c.asked(x, "alone is as good", 32, () -> x.company(5));
            c.asked(x, "a driver drives one", 17, () -> x.company(4));
            x.tell(0, 0);
            c.asked(x, "all shown alone", 1, () -> x.company(0));
            c.refused(x, "company(6)", BAD, () -> x.company(6));
            c.refused(x, "company(-1)", BAD, () -> x.company(-1));
        });
        promise(45, "spoiler", () -> {
            c.asked(x, "nobody", NONE, () -> x.spoiler(0));
            sixKinds();
            c.asked(x, "one", 2, () -> x.spoiler(4));
            c.asked(x, "an asker", 1, () -> x.spoiler(3));
            c.asked(x, "asker and artist: the first", 1, () -> x.spoiler(11));
            c.asked(x, "all the same: the first", 0, () -> x.spoiler(36 | 1));
            x.mark(11, 0, 17);
            x.mark(10, 0, 13);
            c.asked(x, "without the child", 0, () -> x.spoiler(33));
            refusedGroups("spoiler", g -> x.spoiler(g));
        });
        promise(46, "split", () -> {
            c.asked(x, "nobody", 0, () -> x.split(0, 0));
            c.asked(x, "nobody", 0, () -> x.split(0, 1));
            reads("visitor 1 0 20;visitor 0 0 8;saw 1 10;shy 11 20", 4);
            c.asked(x, "the visitor first", 2, () -> x.split(3, 0));
            c.asked(x, "how many", 10, () -> x.split(3, 1));
            c.asked(x, "one: behind nobody", 0, () -> x.split(1, 0));
            c.asked(x, "one: how many", 2, () -> x.split(1, 1));
            c.asked(x, "KNOWN of all", 1, () -> x.split(0, 1));
            c.refused(x, "split(4, 0)", BAD, () -> x.split(4, 0));
            c.refused(x, "split(-1, 0)", BAD, () -> x.split(-1, 0));
            c.refused(x, "split(1, 2)", BAD, () -> x.split(1, 2));
            c.refused(x, "split(1, -1)", BAD, () -> x.split(1, -1));
        });
        promise(47, "couple", () -> {
            c.asked(x, "nobody", NONE, () -> x.couple());
            x.visitor(0, 0, 0);
            c.asked(x, "one", NONE, () -> x.couple());
            x.visitor(0, 0, 0);
            c.asked(x, "two", 1, () -> x.couple());
            x.visitor(0, 0, 0);
            x.visitor(0, 0, 0);
            reads("saw 1 0;saw 1 1;saw 2 0;saw 2 1;saw 3 2", 5);
            c.asked(x, "together", 13, () -> x.couple());
            reads("saw 0 2", 1);
            c.asked(x, "the first", 1, () -> x.couple());
            reads("saw 2 3;saw 3 4", 2);
            c.asked(x, "the last two", 23, () -> x.couple());
        });
        promise(48, "secret", () -> {
            sixKinds();
            reads("saw 5 0;saw 1 1;saw 2 1;saw 0 3", 4);
            c.asked(x, "one", 5, () -> x.secret(0));
            c.asked(x, "the first", 0, () -> x.secret(3));
            c.asked(x, "several", NONE, () -> x.secret(1));
            c.asked(x, "none", NONE, () -> x.secret(2));
            c.refused(x, "secret(12)", BAD, () -> x.secret(12));
            c.refused(x, "secret(-1)", BAD, () -> x.secret(-1));
        });
        promise(49, "rank", () -> {
            c.refused(x, "nobody", BAD, () -> x.rank(0));
            sixKinds();
            reads("saw 5 0;saw 1 1;saw 2 1;saw 5 3", 4);
            int[] due = {5, 1, 2, 0, 3, 4};
            for (int i = 0; i < 6; i++) {
                int place = i;
                c.asked(x, "rank(" + i + ")", due[i], () -> x.rank(place));
            }
            c.refused(x, "rank(6)", BAD, () -> x.rank(6));
            c.refused(x, "rank(-1)", BAD, () -> x.rank(-1));
        });
        promise(50, "blind", () -> {
            sixKinds();
            c.asked(x, "cell 0 is shown to each", 0, () -> x.blind(20));
            x.mark(0, 0, 5);
            x.mark(1, 0, 5);
            x.mark(2, 0, 5);
            x.mark(3, 0, 5);
            x.mark(4, 0, 5);
            c.asked(x, "blind(4)", 0, () -> x.blind(4));
            c.asked(x, "blind(5)", 0, () -> x.blind(5));
            c.asked(x, "blind(6)", 1, () -> x.blind(6));
            c.asked(x, "blind(20)", 6, () -> x.blind(20));
            c.asked(x, "blind(0)", 0, () -> x.blind(0));
            c.refused(x, "blind(21)", BAD, () -> x.blind(21));
            c.refused(x, "blind(-1)", BAD, () -> x.blind(-1));
        });
        promise(51, "shyest", () -> {
            c.asked(x, "none told", NONE, () -> x.shyest(0));
            c.asked(x, "shyest(4095)", 11, () -> x.shyest(4095));
            c.asked(x, "shyest(7)", 2, () -> x.shyest(7));
            x.mark(1, 0, 2);
            c.asked(x, "the first", 1, () -> x.shyest(7));
            x.mark(0, 0, 0);
            c.asked(x, "SHYNESS 0", 0, () -> x.shyest(1));
            c.refused(x, "shyest(4096)", BAD, () -> x.shyest(4096));
            c.refused(x, "shyest(-1)", BAD, () -> x.shyest(-1));
        });
        promise(52, "alike", () -> {
            sixKinds();
            c.asked(x, "the same", 1, () -> x.alike(0, 0));
            c.asked(x, "two kinds", 1, () -> x.alike(2, 3));
            c.asked(x, "not alike", 0, () -> x.alike(0, 1));
            x.wants(0, 0);
            c.asked(x, "all cells", 1, () -> x.alike(0, 5));
            c.refused(x, "alike(6, 0)", BAD, () -> x.alike(6, 0));
            c.refused(x, "alike(0, -1)", BAD, () -> x.alike(0, -1));
        });
        promise(53, "ofKind", () -> {
            c.asked(x, "nobody", 0, () -> x.ofKind(0));
            sixKinds();
            x.visitor(3, 0, 0);
            int[] due = {1, 1, 1, 2, 1, 1};
            for (int i = 0; i < 6; i++) {
                int kind = i;
                c.asked(x, "ofKind(" + i + ")", due[i], () -> x.ofKind(kind));
            }
            c.refused(x, "ofKind(6)", BAD, () -> x.ofKind(6));
            c.refused(x, "ofKind(-1)", BAD, () -> x.ofKind(-1));
        });
    }

    private void refusedVisitorAndCellOf24(String name, OfTwo call) {
        int[][] bad = {{6, 0}, {-1, 0}, {0, 24}, {0, -1}};
        for (int[] b : bad) {
            c.refused(x, name + "(" + b[0] + ", " + b[1] + ")", BAD, () -> call.of(b[0], b[1]));
        }
    }

    private void inTruth() {
        promise(54, "judge", () -> {
            sixKinds();
            x.show(1, 0);
            fill(0, 3, 1, 63, 0, 64, -1, 1L << 32 | 1);
            int[][] due = {{0, NONE}, {2, NONE}, {3, 2}, {6, 2}};
            for (int[] d : due) {
                c.asked(x, "judge(0, " + d[0] + ")", d[1], () -> x.judge(0, d[0]));
            }
            x.set(0, 2, 5);
            c.asked(x, "one who isn't there", 3, () -> x.judge(0, 6));
            x.set(0, 3, 5);
            c.asked(x, "below 0", 4, () -> x.judge(0, 6));
            x.set(0, 4, 5);
            c.asked(x, "beyond int", 5, () -> x.judge(0, 6));
            x.row(2, 4, 40);
            c.asked(x, "judge(2, 40)", 0, () -> x.judge(2, 40));
            refusedLogs("judge", (s, n) -> x.judge(s, n));
        });
        promise(55, "behind", () -> {
            sixKinds();
            x.show(1, 0);
            reads("saw 4 11", 1);
            fill(0, 0, 2, 1, 32, 0);
            c.asked(x, "no visit: KNOWN", 2048, () -> x.behind(0, 0, 0));
            c.asked(x, "no visit: VEIL", 4, () -> x.behind(0, 0, 1));
            c.asked(x, "one: KNOWN", 2048 | 63, () -> x.behind(0, 1, 0));
            c.asked(x, "one: VEIL", 5, () -> x.behind(0, 1, 1));
            c.asked(x, "two: KNOWN", 2048 | 1023, () -> x.behind(0, 2, 0));
            c.asked(x, "three: KNOWN", 4095, () -> x.behind(0, 3, 0));
            c.asked(x, "three: VEIL", 4, () -> x.behind(0, 3, 1));
            c.refused(x, "it is WRONG", STUCK, () -> x.behind(0, 4, 0));
            c.refused(x, "what 2", BAD, () -> x.behind(1, 0, 2));
            c.refused(x, "what -1", BAD, () -> x.behind(7, 0, -1));
            fill(2, 2, 8, 8);
            c.asked(x, "an artist twice", 255 | 2048, () -> x.behind(2, 2, 0));
            x.row(0, 0, 6);
            refusedLogs("behind", (s, n) -> x.behind(s, n, 1));
        });
        promise(56, "visit", () -> {
            sixKinds();
            c.granted(x, "visit(2)", 63, () -> x.visit(2));
            c.due("SEEN", x.visitorOf(1, 3), 63);
            c.due("VEIL", x.status(2), 5);
            c.due("DAY", x.status(3), 1);
            c.granted(x, "visit(3)", 64 | 128, () -> x.visit(3));
            c.due("SEEN of the visitor", x.visitorOf(0, 3), 255);
            c.due("SEEN of the asker, still", x.visitorOf(1, 3), 63);
            c.due("VEIL", x.status(2), 6);
            c.granted(x, "visit(32)", 4095 & ~255, () -> x.visit(32));
            c.granted(x, "nothing new", 0, () -> x.visit(8));
            c.due("SEEN of the artist", x.visitorOf(3, 4), 7);
            c.due("an artist is full", x.open(3, 8), 0);
            x.tell(1, 998);
            x.visit(1);
            c.due("DAY", x.status(3), 999);
            x.visit(1);
            c.due("999 at most", x.status(3), 999);
            x.tell(0, 0);
            x.visit(32);
            c.due("0 at least", x.status(2), 0);
            x.tell(0, 20);
            x.visit(10);
            c.due("20 at most", x.status(2), 20);
            c.refused(x, "nobody", BAD, () -> x.visit(0));
            refusedGroups("visit", g -> x.visit(g));
        });
        promise(57, "days", this::drawnDays);
        promise(58, "seed", () -> {
            c.granted(x, "seed(7)", 1, () -> x.seed(7));
            c.granted(x, "seed(-9)", 7, () -> x.seed(-9));
            c.granted(x, "seed(LOW)", -9, () -> x.seed(LOW));
            c.due("SEED", x.status(6), LOW);
        });
        promise(59, "image", () -> {
            c.asked(x, "image()", 1, () -> x.image());
            sixKinds();
            feedText("veil");
            c.asked(x, "image() again", 1, () -> x.image());
            x.visitor(0, 0, 0);
            x.back();
            c.due("the last one is kept", x.status(0), 6);
            c.due("not THE TAPE", x.status(5), 4);
        });
        promise(60, "back", this::back);
        promise(61, "status", () -> {
            sixKinds();
            x.visit(2);
            feedText("abc");
            x.show(0, 1);
            x.row(7, 0, 0);
            x.paves(13);
            x.seed(-5);
            x.paves(0);
            x.says(7, 0);
            x.says(7, 0);
            x.set(1, 0, 0);
            x.best(9);
            x.best(9);
            x.back();
            x.visitor(0, 0, 0);
            x.visitor(0, 0, 0);
            x.visitor(0, 0, 0);
            int[][] due = {{0, 8}, {1, 13}, {2, 5}, {3, 1}, {4, 6}, {5, 3}, {6, -5}, {7, 2},
                {12, 3}, {13, 2}, {14, 1}, {15, 1}, {16, 1}, {8, NONE}, {11, NONE}, {17, NONE}, {-1, NONE},
                {HIGH, NONE}, {LOW, NONE}};
            for (int[] d : due) {
                c.asked(x, "status(" + d[0] + ")", d[1], () -> x.status(d[0]));
            }
        });
    }

    private void refusedLogs(String name, OfTwo call) {
        c.refused(x, name + "(-1, 0)", BAD, () -> call.of(-1, 0));
        c.refused(x, name + "(8, 0)", BAD, () -> call.of(8, 0));
        c.refused(x, name + "(1, 41)", BAD, () -> call.of(1, 41));
        c.refused(x, name + "(7, -1)", BAD, () -> call.of(7, -1));
        c.refused(x, name + " of a visitor", OTHER, () -> call.of(1, 40));
        c.refused(x, name + " of nothing", NOTHING, () -> call.of(7, 40));
        c.refused(x, name + ": fewer elements", BAD, () -> call.of(0, 7));
    }

    /** SEED 1 draws, after one step each, 1103527590, 2524885223 ..: the upper 16 bits 16838, 38526 .. */
    private void drawnDays() {
        int seed = 1;
        int[] draws = new int[12];
        for (int i = 0; i < draws.length; i++) {
            seed = seed * 1103515245 + 12345;
            draws[i] = seed >>> 16;
        }
        c.due("the first draw", draws[0], 16838);
        c.granted(x, "nobody comes", 0, () -> x.days(1));
        c.due("VEIL", x.status(2), 16838 % 21);
        c.due("DAY", x.status(3), 1);
        c.due("SEED", x.status(6), 1103527590);
        x.seed(1);
        x.tell(0, 4);
        x.visitor(0, 0, 0);
        x.visitor(5, 0, 0);
        int known = 0;
        int all = 0;
        for (int day = 0; day < 4; day++) {
            int veil = draws[3 * day] % 21;
            int group = draws[3 * day + 1] % 2 + 2 * (draws[3 * day + 2] % 2);
            int open = group == 3 ? Math.min(20, 21 - veil) : 20 - veil;
            int seen = group == 0 ? 0 : (1 << Math.min(12, open + 1)) - 1;
            int fresh = Integer.bitCount(seen & ~known);
            known |= seen;
            all += fresh;
            c.granted(x, "day " + day, fresh, () -> x.days(1));
            c.due("VEIL", x.status(2), Math.max(0, veil - group / 2));
            c.due("DAY", x.status(3), day + 2);
            c.due("KNOWN", x.known(3), known);
        }
        c.due("SEED", x.status(6), seed);
        // two of three come: the draws of the first day say who
        for (int from = 1; from < 9; from++) {
            x = Used.face();
            reads("visitor 0 0 20;visitor 1 0 20;visitor 2 0 20", 3);
            x.seed(from);
            int drawn = from * 1103515245 + 12345;
            int veil = (drawn >>> 16) % 21;
            int group = 0;
            for (int visitor = 0; visitor < 3; visitor++) {
                drawn = drawn * 1103515245 + 12345;
                group += (drawn >>> 16) % 2 << visitor;
            }
            c.granted(x, "a day from seed " + from, group == 0 ? 0 : 1, () -> x.days(1));
            c.due("who came, from seed " + from, x.cellOf(0, 2), group);
            c.due("VEIL, from seed " + from, x.status(2), Math.min(20, veil + group / 2 % 2));
        }
        x = Used.face();
        x.visitor(0, 0, 0);
        x.visitor(5, 0, 0);
        int sum = all;
        c.granted(x, "four days at once", sum, () -> x.days(4));
        c.due("SEED", x.status(6), seed);
        x.tell(1, 999);
        c.granted(x, "sixty", 12 - sum, () -> x.days(60));
        c.due("DAY 999 at most", x.status(3), 999);
        c.refused(x, "days(0)", BAD, () -> x.days(0));
        c.refused(x, "days(61)", BAD, () -> x.days(61));
        c.refused(x, "days(-1)", BAD, () -> x.days(-1));
    }

    private void back() {
        c.refused(x, "nothing was kept", STUCK, () -> x.back());
        x.visitor(1, 2, 3);
        x.visit(1);
        x.mark(0, 1, 9);
        x.seed(77);
        x.image();
        String ahead = Used.behind(x).look();
        x.visitor(5, 0, 0);
        x.wants(0, 9);
        x.paves(20);
        x.mark(0, 0, 9);
        x.mark(0, 1, 8);
        x.mark(19, 0, 1);
        x.mark(19, 1, 1);
        x.tell(0, 9);
        x.tell(1, 99);
        x.days(9);
        c.granted(x, "back()", 1, () -> x.back());
        c.holds("all is as it was", ahead.equals(Used.behind(x).look()));
        x.paves(20);
        c.due("SHYNESS of the 19th is as at first", x.cellOf(19, 0), 19);
        c.due("THING of the 19th is as at first", x.cellOf(19, 1), 9);
        c.due("shown", x.shown(0, 1), 127);
        c.due("a new child", x.visitor(0, 0, 0), 1);
        c.due("is no child", x.veilThen(2), 5);
        x.show(0, 0);
        x.show(1, 1);
        x.show(7, 1);
        fill(2, 2, 11);
        feedText("veil");
        int bad = x.status(12);
        x.paves(-1);
        c.granted(x, "back() again", 1, () -> x.back());
        c.due("a shelf with one who is there", x.holds(0), 10);
        c.due("a shelf with one who is gone", x.holds(1), NONE);
        c.due("the last shelf", x.holds(7), NONE);
        c.due("a shelf with a row", x.element(2, 0), 11);
        c.due("THE TAPE is as it is", x.status(5), 4);
        c.due("REFUSALS are as they are", x.status(12), bad + 1);
        c.due("CELLS", x.status(1), 12);
    }
}
