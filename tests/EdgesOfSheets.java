/** Promises 35 to 40: rows of bytes, chars and longs. */
final class EdgesOfSheets {
    private static final int MIN = Integer.MIN_VALUE, MAX = Integer.MAX_VALUE;

    private EdgesOfSheets() {
    }

    static void all() {
        sheet();
        put();
        item();
        copy();
        copyRefused();
        lay();
        take();
        takeRefused();
    }

    private static void sheet() {
        Edge.says(35, "A SHEET becomes a row of n of a sort, all 0,");
        for (int sort = 0; sort < 3; sort++) {
            Edge.anew();
            Edge.does("sheet(3, " + sort + ", 0)", 1, "sheet 3");
            Edge.rowDue(3, sort);
            Edge.does("sheet(3, " + sort + ", 40)", 1, "sheet 3");
            Edge.rowDue(3, sort, new int[40]);
            Edge.run("put(3, 0, 7)", "put(3, 39, 7)");
            Edge.does("sheet(3, " + sort + ", 40)", 1, "sheet 3");
            Edge.rowDue(3, sort, new int[40]);
            Edge.run("put(3, 0, 7)", "put(3, 39, 7)", "sheet(3, " + sort + ", 1)");
            Edge.rowDue(3, sort, 0);
            // what stood behind the row's end is gone, too
            Edge.run("sheet(3, " + sort + ", 40)");
            Edge.rowDue(3, sort, new int[40]);
        }

        Edge.says(35, "or is missing (sort -1, whatever n): 1.");
        Edge.rich();
        for (String n : new String[] {"0", "40", "41", "-1", "MIN", "MAX"}) {
            Edge.run("sheet(0, 0, 3)");
            Edge.does("sheet(0, -1, " + n + ")", 1, "sheet 0");
            Edge.missing(0);
        }
        Edge.does("sheet(0, -1, 7)", 1);

        Edge.says(35, "BAD: sheet, sort, n above 40; -14.");
        Edge.rich();
        Edge.range("sheet(#, 0, 1)", 0, 3);
        Edge.range("sheet(#, -1, 1)", 0, 3);
        Edge.range("sheet(0, #, 1)", -1, 2);
        for (int sort = 0; sort < 3; sort++) {
            String head = "sheet(1, " + sort + ", ";
            Edge.refused(Edge.BAD, head + "41)", head + "MAX)");
            Edge.refused(Edge.BELOW_0, head + "-1)", head + "-2)", head + "MIN)");
        }
        // BAD is named first
        Edge.refused(Edge.BAD, "sheet(4, 0, -1)", "sheet(0, 3, -1)", "sheet(0, -2, -1)", "sheet(-1, -1, -1)");
    }

    private static void put() {
        Edge.says(36, "Place i of a row becomes v (bytes: its lowest 8 bits, chars: its lowest 16): 1.");
        Edge.row(0, 0, new int[40]);
        Edge.row(1, 1, new int[40]);
        Edge.row(2, 2, new int[40]);
        Edge.does("put(0, 0, 127)", 1, "sheet 0");
        Edge.asks("item(0, 0, 0)", 127);
        Edge.does("put(0, 39, 256)", 1, "sheet 0");
        Edge.asks("item(0, 0, 39)", 0);
        Edge.does("put(0, 39, 383)", 1, "sheet 0");
        Edge.asks("item(0, 0, 39)", 127);
        Edge.does("put(0, 39, -129)", 1, "sheet 0");
        Edge.asks("item(0, 0, 39)", 127);
        Edge.does("put(0, 39, MIN)", 1, "sheet 0");
        Edge.asks("item(0, 0, 39)", 0);
        Edge.does("put(1, 0, 65535)", 1, "sheet 1");
        Edge.asks("item(1, 1, 0)", 65535);
        Edge.does("put(1, 39, 65536)", 1, "sheet 1");
        Edge.asks("item(1, 1, 39)", 0);
        Edge.does("put(1, 39, -1)", 1, "sheet 1");
        Edge.asks("item(1, 1, 39)", 65535);
        Edge.does("put(1, 39, MIN)", 1, "sheet 1");
        Edge.asks("item(1, 1, 39)", 0);
        Edge.does("put(1, 39, 32768)", 1, "sheet 1");
        Edge.asks("item(1, 1, 39)", 32768);
        Edge.does("put(2, 0, MAX)", 1, "sheet 2");
        Edge.asks("item(2, 2, 0)", MAX);
        Edge.does("put(2, 39, MIN)", 1, "sheet 2");
        Edge.asks("item(2, 2, 39)", MIN);
        // a byte has 8 bits alone: as in Java the highest one of them is its sign
        Edge.does("put(0, 1, 128)", 1, "sheet 0");
        Edge.asks("item(0, 0, 1)", -128);
        Edge.does("put(0, 1, 255)", 1, "sheet 0");
        Edge.asks("item(0, 0, 1)", -1);
        Edge.does("put(0, 1, -1)", 1);
        Edge.does("put(0, 1, MAX)", 1);

        Edge.says(36, "BAD; -11; -12.");
        Edge.rich();
        Edge.range("put(#, 0, 1)", 0, 3);
        Edge.refused(Edge.NOTHING, "put(3, 0, 1)", "put(3, -1, 1)", "put(3, 40, 1)", "put(3, MAX, 1)");
        int[] lengths = {5, 9, 3};
        for (int sheet = 0; sheet < 3; sheet++) {
            String head = "put(" + sheet + ", ";
            Edge.refused(Edge.OUTSIDE, head + "-1, 1)", head + lengths[sheet] + ", 1)", head + "MIN, 1)", head + "MAX, 1)");
            Edge.does(head + "0, 99)", 1, "sheet " + sheet);
            Edge.does(head + (lengths[sheet] - 1) + ", 99)", 1, "sheet " + sheet);
        }
        Edge.refused(Edge.BAD, "put(4, -1, 1)", "put(-1, 99, 1)");
        Edge.run("sheet(0, 0, 0)");
        Edge.refused(Edge.OUTSIDE, "put(0, 0, 1)");
    }

    private static void item() {
        Edge.says(37, "Place i of a row taken for one of a sort (of longs the lowest 32 bits).");
        Edge.row(0, 0, 0, 1, 127, -128);
        Edge.row(1, 1, 0, 1, 65535);
        Edge.row(2, 2, 0, 1, MAX, MIN, -1);
        int[][] due = {{0, 1, 127, -128}, {0, 1, 65535}, {0, 1, MAX, MIN, -1}};
        for (int sort = 0; sort < 3; sort++) {
            for (int i = 0; i < due[sort].length; i++) {
                Edge.asks("item(" + sort + ", " + sort + ", " + i + ")", due[sort][i]);
            }
        }
        Edge.run("sheet(0, 1, 40)", "put(0, 39, 8)");
        Edge.asks("item(0, 1, 39)", 8);

        Edge.says(37, "BAD: sheet, sort; -11; -13; -12.");
        Edge.rich();
        Edge.range("item(#, 0, 0)", 0, 3);
        Edge.range("item(0, #, 0)", 0, 2);
        Edge.range("item(3, #, 0)", 0, 2);
        int[] lengths = {5, 9, 3};
        for (int sheet = 0; sheet < 3; sheet++) {
            Edge.refused(Edge.NOTHING, "item(3, " + sheet + ", 0)", "item(3, " + sheet + ", -1)", "item(3, " + sheet + ", MAX)");
            for (int sort = 0; sort < 3; sort++) {
                String head = "item(" + sheet + ", " + sort + ", ";
                int refusal = sort == sheet ? Edge.OUTSIDE : Edge.OTHER;
                Edge.refused(refusal, head + "-1)", head + lengths[sheet] + ")", head + "MIN)", head + "MAX)");
                if (sort != sheet) {
                    Edge.refused(Edge.OTHER, head + "0)");
                }
            }
        }
        Edge.refused(Edge.BAD, "item(4, 0, -1)", "item(3, 3, -1)", "item(0, -1, 99)", "item(0, 3, 99)");
        Edge.run("sheet(0, 0, 0)");
        Edge.refused(Edge.OUTSIDE, "item(0, 0, 0)");
        Edge.refused(Edge.OTHER, "item(0, 1, 0)");
    }

    private static void copy() {
        Edge.says(38, "n places of a row from i on come to another one (or the same) from j on, as they all were before: n.");
        Edge.row(0, 1, 1, 2, 3, 4, 65535);
        Edge.row(1, 1, 9, 9, 9);
        Edge.does("copy(0, 0, 1, 0, 3)", 3, "sheet 1");
        Edge.rowDue(1, 1, 1, 2, 3);
        Edge.does("copy(0, 4, 1, 2, 1)", 1, "sheet 1");
        Edge.rowDue(1, 1, 1, 2, 65535);
        Edge.does("copy(0, 5, 1, 3, 0)", 0);
        Edge.does("copy(0, 0, 1, 0, 0)", 0);
        // the same: what comes is what was there before any of it came
        Edge.does("copy(0, 0, 0, 1, 4)", 4, "sheet 0");
        Edge.rowDue(0, 1, 1, 1, 2, 3, 4);
        Edge.does("copy(0, 1, 0, 0, 4)", 4, "sheet 0");
        Edge.rowDue(0, 1, 1, 2, 3, 4, 4);
        Edge.does("copy(0, 0, 0, 0, 5)", 5);
        Edge.run("sheet(2, 1, 0)", "sheet(3, 1, 0)");
        Edge.does("copy(2, 0, 3, 0, 0)", 0);
        // bytes and longs come as they are
        Edge.row(2, 0, -128, 127);
        Edge.row(3, 0, 0, 0);
        Edge.does("copy(2, 0, 3, 0, 2)", 2, "sheet 3");
        Edge.rowDue(3, 0, -128, 127);
        Edge.row(2, 2, MIN, MAX);
        Edge.row(3, 2, 0, 0);
        Edge.does("copy(2, 0, 3, 0, 2)", 2, "sheet 3");
        Edge.rowDue(3, 2, MIN, MAX);
        // the longest
        Edge.run("sheet(2, 0, 40)", "sheet(3, 0, 40)", "put(2, 39, 5)", "put(2, 0, 6)");
        Edge.does("copy(2, 0, 3, 0, 40)", 40, "sheet 3");
        Edge.asks("item(3, 0, 39)", 5);
        Edge.asks("item(3, 0, 0)", 6);
    }

    private static void copyRefused() {
        Edge.says(38, "BAD; -11: either; -13: of unlike sorts; -12: either.");
        Edge.rich();
        Edge.run("sheet(2, 1, 4)");
        Edge.range("copy(#, 0, 1, 0, 1)", 0, 3);
        Edge.range("copy(1, 0, #, 0, 1)", 0, 3);
        Edge.refused(Edge.NOTHING, "copy(3, 0, 1, 0, 1)", "copy(1, 0, 3, 0, 1)", "copy(3, 0, 3, 0, 0)", "copy(3, -1, 1, 0, 1)",
            "copy(0, -1, 3, 0, 1)");
        Edge.refused(Edge.OTHER, "copy(0, 0, 1, 0, 1)", "copy(1, 0, 0, 0, 1)", "copy(0, -1, 1, 0, 1)", "copy(1, 0, 0, 99, 1)");
        // one of nine to one of four
        Edge.refused(Edge.OUTSIDE, "copy(1, -1, 2, 0, 1)", "copy(1, 0, 2, -1, 1)", "copy(1, 0, 2, 0, -1)",
            "copy(1, 9, 2, 0, 1)", "copy(1, 10, 2, 0, 0)", "copy(1, 0, 2, 4, 1)", "copy(1, 0, 2, 5, 0)", "copy(1, 0, 2, 0, 5)",
            "copy(1, 0, 2, 1, 4)", "copy(2, 1, 1, 0, 4)", "copy(2, 0, 1, 6, 4)", "copy(1, 9, 1, 9, 1)", "copy(1, 0, 1, 1, 9)");
        // both together wrap
        Edge.refused(Edge.OUTSIDE, "copy(1, MAX, 2, 0, MAX)", "copy(1, 1, 2, 0, MAX)", "copy(1, MAX, 2, 0, 1)",
            "copy(1, 0, 2, MAX, 1)", "copy(1, MIN, 2, 0, MIN)", "copy(1, 0, 2, 0, MIN)", "copy(1, MIN, 2, 0, MAX)",
            "copy(1, 0, 2, MIN, 1)", "copy(1, -1, 2, -1, 2)");
        Edge.does("copy(1, 9, 2, 4, 0)", 0);
        Edge.does("copy(1, 5, 2, 0, 4)", 4, "sheet 2");
        Edge.does("copy(2, 0, 1, 5, 4)", 4, "sheet 1");
        Edge.refused(Edge.BAD, "copy(4, 0, 3, 0, 1)", "copy(3, 0, 4, 0, 1)", "copy(-1, -1, -1, -1, -1)");
    }

    private static void lay() {
        Edge.says(39, "LOW of POINTS 0, 1, .. come to a row of bytes or chars, to as many places from i on: how many.");
        Edge.text(0, Shapes.CHAIN7);
        Edge.row(0, 0, 9, 9, 9, 9, 9, 9, 9, 9, 9);
        Edge.row(1, 1, 9, 9, 9, 9, 9, 9, 9, 9, 9);
        for (int sort = 0; sort < 2; sort++) {
            Edge.does("lay(0, " + sort + ", 0)", 7, "sheet " + sort);
            Edge.rowDue(sort, sort, 1, 3, 7, 15, 31, 63, 127, 9, 9);
            Edge.does("lay(0, " + sort + ", 2)", 7, "sheet " + sort);
            Edge.rowDue(sort, sort, 1, 3, 1, 3, 7, 15, 31, 63, 127);
            // of none: nothing comes, not even at the end
            Edge.does("lay(5, " + sort + ", 0)", 0);
            Edge.does("lay(5, " + sort + ", 9)", 0);
        }
        // a set of all eight is a byte of eight bits
        Edge.text(0, Shapes.CHAIN8);
        Edge.does("lay(0, 1, 1)", 8, "sheet 1");
        Edge.rowDue(1, 1, 1, 1, 3, 7, 15, 31, 63, 127, 255);
        Edge.does("lay(0, 0, 1)", 8, "sheet 0");
        Edge.rowDue(0, 0, 1, 1, 3, 7, 15, 31, 63, 127, -1);

        Edge.says(39, "BAD; -11; -13; -12.");
        Edge.rich();
        Edge.noSpace("lay(#, 1, 0)");
        Edge.range("lay(0, #, 0)", 0, 3);
        Edge.refused(Edge.NOTHING, "lay(0, 3, 0)", "lay(0, 3, -1)", "lay(4, 3, 0)");
        Edge.refused(Edge.OTHER, "lay(0, 2, 0)", "lay(0, 2, -1)", "lay(4, 2, 0)", "lay(2, 2, 99)");
        // three points into five places, eight into nine, none into any
        Edge.refused(Edge.OUTSIDE, "lay(0, 0, -1)", "lay(0, 0, 3)", "lay(0, 0, 5)", "lay(0, 0, MAX)", "lay(0, 0, MIN)", "lay(2, 0, 0)",
            "lay(2, 1, 2)", "lay(2, 1, -1)", "lay(4, 0, 6)", "lay(4, 0, -1)", "lay(4, 1, 10)", "lay(4, 1, MAX)");
        Edge.does("lay(4, 0, 5)", 0);
        Edge.does("lay(2, 1, 1)", 8, "sheet 1");
        Edge.does("lay(0, 0, 2)", 3, "sheet 0");
        Edge.refused(Edge.BAD, "lay(6, 3, 0)", "lay(0, 4, -1)", "lay(-1, -1, -1)");
    }

    private static void take() {
        Edge.says(40, "A SPACE becomes one of n POINTS (0 to 8), into which those are NESTED, POINT by POINT, "
            + "that the n places of a row of bytes or chars from i on tell (as sets; other bits count nothing):");
        Edge.rich();
        Edge.row(1, 1, 0, 1, 2, 4, 8, 16, 32, 64, 128);
        Edge.range("take(1, 0, #, 0)", 0, 8);
        Edge.does("take(1, 0, 0, 2)", 0, "space 2");
        Edge.asks("told(2, 0)", 0);
        Edge.does("take(1, 1, 8, 2)", 0, "space 2");
        Edge.lows(2, "1 2 4 8 16 32 64 128");
        // each names the one ahead of it alone: all that must follow follows
        Edge.does("take(1, 0, 8, 2)", 28, "space 2");
        Edge.lows(2, "1 3 7 15 31 63 127 255");
        // of one point bit 0 alone counts, of two points bits 0 and 1
        Edge.row(1, 1, 65535, 65534, 65532, 0);
        Edge.does("take(1, 0, 1, 2)", 0, "space 2");
        Edge.lows(2, "1");
        Edge.does("take(1, 0, 2, 2)", 1, "space 2");
        Edge.lows(2, "3 2");
        Edge.does("take(1, 2, 2, 2)", 0, "space 2");
        Edge.lows(2, "1 2");
        Edge.does("take(1, 1, 2, 2)", 1, "space 2");
        Edge.lows(2, "3 2");
        // a byte of eight bits tells all eight
        Edge.row(0, 0, 0, 0, 0, 0, 0, 0, 0, 255, -128);
        Edge.does("take(0, 0, 8, 2)", 7, "space 2");
        Edge.lows(2, "1 2 4 8 16 32 64 255");
        Edge.does("take(0, 7, 2, 2)", 1, "space 2");
        Edge.lows(2, "3 2");

        Edge.says(40, "pairs of one STRICTLY below another one.");
        Edge.row(0, 0, 2, 1, 1, 127, 8);
        // 0 and 1 are alike, 2 is above them, 3 above all of them, and 4 alike to 3
        Edge.does("take(0, 0, 2, 1)", 0, "space 1");
        Edge.does("take(0, 0, 3, 1)", 2, "space 1");
        Edge.does("take(0, 0, 4, 1)", 2 + 3, "space 1");
        Edge.does("take(0, 0, 5, 1)", 2 + 3 + 3, "space 1");
    }

    private static void takeRefused() {
        Edge.says(40, "BAD: sheet, n, space; -11; -13; -12.");
        Edge.rich();
        Edge.noSpace("take(1, 0, 1, #)");
        Edge.range("take(#, 0, 1, 4)", 0, 3);
        Edge.range("take(1, 0, #, 4)", 0, 8);
        Edge.range("take(3, 0, #, 4)", 0, 8);
        Edge.refused(Edge.NOTHING, "take(3, 0, 1, 4)", "take(3, -1, 0, 4)", "take(3, 99, 8, 0)");
        Edge.refused(Edge.OTHER, "take(2, 0, 1, 4)", "take(2, -1, 0, 4)", "take(2, 99, 8, 0)");
        // five bytes, nine chars
        Edge.refused(Edge.OUTSIDE, "take(0, -1, 1, 0)", "take(0, 5, 1, 0)", "take(0, 6, 0, 0)", "take(0, -1, 0, 0)", "take(0, 0, 6, 0)",
            "take(0, 4, 2, 0)", "take(1, 2, 8, 0)", "take(1, 9, 1, 0)", "take(1, MAX, 8, 0)", "take(1, MIN, 8, 0)", "take(1, MAX, 0, 0)");
        Edge.does("take(0, 5, 0, 0)", 0, "space 0");
        Edge.does("take(0, 4, 1, 0)", 0, "space 0");
        Edge.does("take(0, 0, 5, 0)", 1 + 2 + 3 + 3, "space 0");
        Edge.refused(Edge.BAD, "take(4, 0, 1, 4)", "take(3, 0, 9, 4)", "take(3, 0, -1, 4)", "take(3, 0, 1, 6)", "take(2, 99, 9, 4)",
            "take(1, 99, 1, -1)");
    }
}
