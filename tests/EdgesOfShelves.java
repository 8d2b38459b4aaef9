/** Promises 41 to 47: shelves, acts, what is kept. */
final class EdgesOfShelves {
    private static final int MIN = Integer.MIN_VALUE, MAX = Integer.MAX_VALUE;

    private EdgesOfShelves() {
    }

    static void all() {
        shelf();
        taken();
        act();
        noAct();
        trace();
        many();
        keep();
        again();
    }

    private static void shelf() {
        Edge.says(41, "A SHELF holds 0 the REDUCTION of KIND n, 1 the row of SHEET n (missing: nothing), 2 nothing (whatever n): 1.");
        for (int kind = 0; kind < 6; kind++) {
            Edge.does("shelf(3, 0, " + kind + ")", 1, "shelf 3");
            Edge.asks("taken(3, " + kind + ")", kind);
        }
        Edge.run("sheet(0, 0, 40)", "sheet(1, 1, 0)", "sheet(2, 2, 1)");
        Edge.does("shelf(0, 1, 0)", 1, "shelf 0");
        Edge.asks("taken(0, 10)", 40);
        Edge.does("shelf(0, 1, 1)", 1, "shelf 0");
        Edge.asks("taken(0, 11)", 0);
        Edge.does("shelf(0, 1, 2)", 1, "shelf 0");
        Edge.asks("taken(0, 12)", 1);
        Edge.does("shelf(0, 1, 3)", 1, "shelf 0");
        Edge.asks("taken(0, 12)", Edge.NOTHING);
        for (String n : new String[] {"0", "-1", "6", "MIN", "MAX"}) {
            Edge.run("shelf(1, 0, 5)");
            Edge.does("shelf(1, 2, " + n + ")", 1, "shelf 1");
            Edge.asks("taken(1, 5)", Edge.NOTHING);
        }
        Edge.does("shelf(1, 2, 0)", 1);

        Edge.says(41, "BAD.");
        Edge.rich();
        for (int what = 0; what < 3; what++) {
            Edge.range("shelf(#, " + what + ", 0)", 0, 3);
        }
        Edge.range("shelf(0, #, 0)", 0, 2);
        Edge.range("shelf(0, 0, #)", 0, 5);
        Edge.range("shelf(0, 1, #)", 0, 3);
        Edge.refused(Edge.BAD, "shelf(4, 2, 9)", "shelf(-1, 2, 0)");
    }

    private static void taken() {
        Edge.says(42, "What a SHELF holds, taken for a REDUCTION of KIND as (0 to 5) or under it: its KIND; "
            + "for a row of bytes (10), chars (11), longs (12): how long it is.");
        // under each kind: down and up, beat, strict and weak are under others
        boolean[][] isUnder = {
            {true, false, false, false, false, false},
            {true, true, false, false, false, false},
            {true, false, true, false, false, false},
            {true, true, false, true, false, false},
            {true, true, false, true, true, false},
            {true, false, true, false, false, true}};
        for (int kind = 0; kind < 6; kind++) {
            Edge.run("shelf(2, 0, " + kind + ")");
            for (int as = 0; as < 6; as++) {
                Edge.asks("taken(2, " + as + ")", isUnder[kind][as] ? kind : Edge.OTHER);
            }
        }
        for (int sort = 0; sort < 3; sort++) {
            for (int n : new int[] {0, 1, 40}) {
                Edge.run("sheet(0, " + sort + ", " + n + ")", "shelf(2, 1, 0)");
                Edge.asks("taken(2, " + (10 + sort) + ")", n);
            }
        }

        Edge.says(42, "BAD; -11; -13.");
        Edge.rich();
        Edge.range("taken(#, 0)", 0, 3);
        Edge.range("taken(0, #)", 0, 5);
        Edge.range("taken(1, #)", 10, 12);
        Edge.refused(Edge.BAD, "taken(0, 6)", "taken(0, 9)", "taken(2, 6)", "taken(2, 13)", "taken(4, 10)", "taken(-1, 0)");
        for (int as : new int[] {0, 1, 2, 3, 4, 5, 10, 11, 12}) {
            Edge.refused(Edge.NOTHING, "taken(2, " + as + ")");
            // a row of chars for anything else
            if (as != 11) {
                Edge.refused(Edge.OTHER, "taken(1, " + as + ")");
            }
        }
        // weak is not under up or strict, and no row; strict is not under down, beat or weak
        Edge.refused(Edge.OTHER, "taken(0, 2)", "taken(0, 5)", "taken(0, 10)", "taken(0, 11)", "taken(0, 12)", "taken(3, 1)",
            "taken(3, 3)", "taken(3, 4)", "taken(3, 10)");
    }

    private static void act() {
        Edge.says(43, "An ACT of the REDUCTION on a SHELF with x.");
        for (int kind = 0; kind < 6; kind++) {
            Edge.anew();
            Edge.run("shelf(0, 0, " + kind + ")");
            for (int x : new int[] {0, 1, -1, 5, MAX, MIN, MAX / 3 + 1, MIN / 3 - 1, 1 << 30}) {
                Edge.does("act(0, 0, " + x + ")", goes(kind, x), "trace");
                Edge.does("act(0, 1, " + x + ")", pays(kind, x), "trace");
                Edge.does("act(0, 2, " + x + ")", tells(kind, x), "trace");
            }
        }
        // on any shelf
        Edge.run("shelf(3, 0, 0)");
        Edge.does("act(3, 0, 1)", 3, "trace");
    }

    /** The acts by hand, each kind for itself. */
    private static int goes(int kind, int x) {
        int like = x * 3 + kind;
        int[] all = {like, like * 2, like, like * 2, like * 2 - 5, like ^ 12};
        return all[kind];
    }

    private static int pays(int kind, int x) {
        int like = goes(kind, x) - 2;
        int[] all = {like, like, like + 7, like, like, like + 7 - goes(kind, 2)};
        return all[kind];
    }

    private static int tells(int kind, int x) {
        int like = pays(kind, x) ^ goes(kind, kind);
        int next = pays(kind, x + 1) ^ goes(kind, kind);
        int[] all = {like, like, 0 - like, next, next + pays(kind, 1), 0 - like};
        return all[kind];
    }

    private static void noAct() {
        Edge.says(43, "0, and no TRACE then: no such SHELF, act, or it holds none.");
        Edge.rich();
        Edge.asks("many(4)", 14);
        // shelf 1 holds a row, shelf 2 nothing
        for (String call : new String[] {"act(-1, 0, 5)", "act(4, 0, 5)", "act(MIN, 0, 5)", "act(MAX, 0, 5)", "act(0, -1, 5)",
            "act(0, 3, 5)", "act(0, MIN, 5)", "act(0, MAX, 5)", "act(1, 0, 5)", "act(1, 2, 5)", "act(2, 0, 5)", "act(2, 3, 5)",
            "act(4, 3, 5)"}) {
            Edge.run("act(3, 2, 5)");
            Edge.asks("many(4)", 11);
            Edge.does(call, 0, "trace");
            Edge.trace();
        }
        Edge.run("act(0, 0, 5)");
        Edge.asks("many(4)", 3);
        Edge.run("act(0, 2, 5)");
        Edge.asks("many(4)", 14);
    }

    private static void trace() {
        Edge.says(44, "THE TRACE's i-th body.");
        Edge.run("shelf(0, 0, 4)", "act(0, 2, 5)");
        // tells 51 40 12, pays(x + 1) of that, goes(k), pays(1)
        Edge.trace(51, 40, 12, 11, 50, 20, 10, 50, 20, 10, 11, 50, 20, 10);
        Edge.run("shelf(0, 0, 0)", "act(0, 0, 5)");
        Edge.trace(10);

        Edge.says(44, "NONE.");
        Edge.refused(Edge.NONE, "trace(0)", "trace(-1)", "trace(29)", "trace(30)", "trace(MIN)", "trace(MAX)");
        Edge.rich();
        Edge.asks("trace(13)", 10);
        Edge.refused(Edge.NONE, "trace(14)", "trace(-1)", "trace(29)", "trace(30)", "trace(31)", "trace(MIN)", "trace(MAX)");
        Edge.run("act(0, 0, 5)");
        Edge.asks("trace(2)", 10);
        Edge.refused(Edge.NONE, "trace(3)", "trace(13)");
    }

    private static void many() {
        Edge.says(45, "0 SPACES that have POINTS, 1 POINTS of all together, 2 PLAIN ones of SPACES 0 to 5 (as a set),");
        int[] none = {0, 0, 63};
        for (int what = 0; what < 3; what++) {
            Edge.asks("many(" + what + ")", none[what]);
        }
        for (int space = 0; space < 6; space++) {
            Edge.run("points(" + space + ", 8)");
            Edge.asks("many(0)", space + 1);
            Edge.asks("many(1)", 8 * (space + 1));
            Edge.asks("many(2)", 63);
        }
        for (int space = 0; space < 6; space++) {
            Edge.run("nest(" + space + ", 6, 7)", "nest(" + space + ", 7, 6)");
            Edge.asks("many(2)", 63 & ~((2 << space) - 1));
        }
        Edge.run("points(3, 1)", "points(5, 0)");
        Edge.asks("many(0)", 5);
        Edge.asks("many(1)", 33);
        Edge.asks("many(2)", 8 + 32);

        Edge.says(45, "3 bytes of THE TAPE, 4 bodies that ran in the latest act() (all, kept or not).");
        Edge.asks("many(3)", 0);
        Edge.asks("many(4)", 0);
        Edge.feed(" ".repeat(100));
        Edge.asks("many(3)", 100);
        Edge.refused(Edge.FULL, "feed(0, 1)");
        Edge.does("space(0)", -200, "tape");
        Edge.asks("many(3)", 0);
        Edge.run("shelf(0, 0, 0)", "act(0, 0, 1)");
        Edge.asks("many(4)", 1);
        // the longest there is
        Edge.run("shelf(0, 0, 4)", "act(0, 2, 1)");
        Edge.asks("many(4)", 14);

        Edge.says(45, "BAD.");
        Edge.rich();
        Edge.range("many(#)", 0, 4);
    }

    private static void keep() {
        Edge.says(46, "All SPACES and z are kept: 1.");
        Edge.does("keep()", 1, "kept");
        Edge.rich();
        Edge.does("keep()", 1, "kept");
        Edge.does("keep()", 1);
        for (int space = 0; space < 6; space++) {
            Edge.run("points(" + space + ", 7)");
        }
        Edge.run("seed(-5)");
        Edge.does("again()", 3 + 4 + 8 + 2 + 0 + 5, "space 0", "space 1", "space 2", "space 3", "space 4", "space 5", "z");
        Edge.lows(0, "1 3 5");
        Edge.lows(1, "1 2 7 11");
        Edge.lows(2, "1 3 7 15 31 63 127 255");
        Edge.lows(3, "3 3");
        Edge.lows(4, "");
        Edge.lows(5, "1 3 12 12 16");
        Edge.does("seed(6)", 77, "z");
    }

    private static void again() {
        Edge.says(47, "They become what was kept latest (which stays): POINTS of all together.");
        // no points are kept, too
        Edge.run("keep()", "points(0, 8)", "points(5, 8)", "seed(9)");
        Edge.does("again()", 0, "space 0", "space 5", "z");
        Edge.does("seed(1)", 1, "z");
        Edge.does("again()", 0);
        for (int space = 0; space < 6; space++) {
            Edge.run("points(" + space + ", 8)");
        }
        Edge.run("seed(MIN)", "keep()", "points(2, 0)", "nest(3, 0, 7)", "seed(MAX)");
        Edge.does("again()", 48, "space 2", "space 3", "z");
        Edge.does("again()", 48);
        Edge.run("nest(3, 0, 7)", "seed(3)");
        Edge.does("again()", 48, "space 3", "z");
        Edge.lows(3, "1 2 4 8 16 32 64 128");
        Edge.does("seed(0)", MIN, "z");
        // the tape, sheets, shelves and the trace are not kept, and do not come back
        Edge.anew();
        Edge.rich();
        Edge.does("again()", 3, "space 0", "space 1", "space 2", "space 3", "space 4", "space 5", "z");
        Edge.lows(0, "1 3");
        Edge.lows(5, "1");
        Edge.does("seed(1)", 99, "z");
        Edge.asks("many(3)", 5);

        Edge.says(47, "NONE: nothing is kept.");
        Edge.refused(Edge.NONE, "again()");
        Edge.text(0, Shapes.VEE);
        Edge.run("seed(5)");
        Edge.refused(Edge.NONE, "again()");
        Edge.run("keep()");
        Edge.does("again()", 3);
    }
}
