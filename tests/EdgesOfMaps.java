/** Promises 15 to 23: sameness and maps. */
final class EdgesOfMaps {
    private EdgesOfMaps() {
    }

    static void all() {
        same();
        form();
        byCode();
        list();
        listed();
        tears();
        maps();
        fence();
        fixed();
    }

    private static void same() {
        Edge.says(15, "How many RENUMBERINGS there are (i -1; 0: none)");
        Edge.asks("same(0, 1, -1)", 1);
        Edge.run("points(0, 1)");
        Edge.asks("same(0, 0, -1)", 1);
        Edge.asks("same(0, 1, -1)", 0);
        Edge.asks("same(1, 0, -1)", 0);
        Edge.run("points(0, 8)");
        Edge.text(1, Shapes.ALIKE8);
        Edge.text(2, Shapes.CHAIN8);
        Edge.text(3, Shapes.FOUR_FOUR);
        int[] own = {40320, 40320, 1, 24 * 24};
        for (int a = 0; a < 4; a++) {
            for (int b = 0; b < 4; b++) {
                Edge.asks("same(" + a + ", " + b + ", -1)", a == b ? own[a] : 0);
            }
        }
        // one more point that is apart
        Edge.text(4, Shapes.CHAIN7);
        Edge.asks("same(4, 2, -1)", 0);
        Edge.asks("same(2, 4, -1)", 0);

        Edge.says(15, "or the image of POINT i by the first one (NONE: there is none).");
        Edge.text(0, Shapes.VEE);
        Edge.text(1, "3;0>2;1>2");
        Edge.asks("same(0, 1, 0)", 2);
        Edge.asks("same(0, 1, 1)", 0);
        Edge.asks("same(0, 1, 2)", 1);
        Edge.text(2, Shapes.CHAIN3);
        Edge.run("points(3, 2)", "points(4, 4)");
        Edge.refused(Edge.NONE, "same(0, 2, 0)", "same(0, 2, 2)", "same(0, 3, 2)", "same(0, 4, 0)", "same(0, 5, 2)");
        Edge.run("points(0, 8)", "points(1, 8)");
        for (int i = 0; i < 8; i++) {
            Edge.asks("same(0, 1, " + i + ")", i);
        }

        Edge.says(15, "BAD: also i that is no POINT.");
        Edge.rich();
        Edge.noSpace("same(#, 0, -1)");
        Edge.noSpace("same(0, #, -1)");
        Edge.range("same(0, 0, #)", -1, 2);
        Edge.range("same(2, 2, #)", -1, 7);
        // it is no POINT of the first one, whatever the other one has
        Edge.range("same(0, 2, #)", -1, 2);
        Edge.range("same(4, 2, #)", -1, -1);
        Edge.range("same(4, 4, #)", -1, -1);
    }

    private static void form() {
        Edge.says(16, "FORM.");
        int[] chains = {0, 0, 1, 11, 311, 36079};
        int[] alike = {0, 0, 3, 63, 4095, 1048575};
        for (int n = 0; n <= 5; n++) {
            Edge.anew();
            Edge.run("points(0, " + n + ")", "points(1, " + n + ")", "points(2, " + n + ")");
            for (int x = 1; x < n; x++) {
                Edge.run("nest(1, " + x + ", " + (x - 1) + ")");
                Edge.run("nest(2, " + x + ", " + (x - 1) + ")", "nest(2, " + (x - 1) + ", " + x + ")");
            }
            Edge.asks("form(0)", 0);
            Edge.asks("form(1)", chains[n]);
            Edge.asks("form(2)", alike[n]);
        }

        Edge.says(16, "BAD: also more than 5 POINTS.");
        Edge.rich();
        Edge.refused(Edge.BAD, "form(2)", "form(-1)", "form(6)", "form(MIN)", "form(MAX)");
        Edge.asks("form(0)", 10);
        // the twins are 0 and 2, 1 has 3 below it
        Edge.asks("form(5)", 2 + (4 << 4) + (1 << 8));
        Edge.run("points(4, 5)");
        Edge.asks("form(4)", 0);
        Edge.run("points(4, 6)");
        Edge.refused(Edge.BAD, "form(4)");
    }

    private static void byCode() {
        Edge.says(17, "A SPACE becomes that of n POINTS (0 to 5) of a CODE");
        Edge.rich();
        Edge.range("byCode(0, #, 0)", 0, 5);
        Edge.refused(Edge.BAD, "byCode(0, 6, 0)", "byCode(0, 8, 0)");
        Edge.does("byCode(2, 5, 1048575)", 8, "space 2");
        Edge.lows(2, "31 31 31 31 31");
        Edge.does("byCode(2, 5, 0)", 5, "space 2");
        Edge.lows(2, "1 2 4 8 16");
        // x first, the lowest bit first: of 0 the bits of 1, 2, 3, 4, .., of 4 those of 0, 1, 2, 3
        Edge.does("byCode(2, 5, 1)", 5, "space 2");
        Edge.lows(2, "3 2 4 8 16");
        Edge.does("byCode(2, 5, 524288)", 5, "space 2");
        Edge.lows(2, "1 2 4 8 24");
        Edge.does("byCode(2, 5, 36079)", 5, "space 2");
        Edge.lows(2, "31 30 28 24 16");

        Edge.says(17, "how many it had.");
        Edge.does("byCode(0, 5, 0)", 0, "space 0");
        Edge.does("byCode(0, 0, 0)", 5, "space 0");
        Edge.does("byCode(0, 1, 0)", 0, "space 0");
        Edge.does("byCode(0, 2, 3)", 1, "space 0");
        Edge.run("points(0, 8)");
        Edge.does("byCode(0, 2, 3)", 8, "space 0");
        Edge.lows(0, "3 3");

        Edge.says(17, "BAD: also a CODE of none such.");
        Edge.rich();
        Edge.noSpace("byCode(#, 1, 0)");
        int[] bits = {0, 0, 2, 6, 12, 20};
        for (int n = 0; n <= 5; n++) {
            Edge.range("byCode(0, " + n + ", #)", 0, (1 << bits[n]) - 1);
        }
        // 1 below 0 and 2 below 1, but 2 not below 0 (that would be bit 1)
        Edge.refused(Edge.BAD, "byCode(0, 3, 9)", "byCode(4, 3, 9)", "byCode(0, 3, -9)", "byCode(2, 4, 4094)");
        Edge.does("byCode(0, 3, 11)", 3, "space 0");
    }

    private static void list() {
        Edge.says(18, "Of all CODES of SPACES of n POINTS (0 to 4): 0 how many, 1 how many PLAIN ones, "
            + "2 how many that are their own FORM, 3 how many such PLAIN ones.");
        int[][] due = {{1, 1, 1, 1}, {1, 1, 1, 1}, {4, 3, 3, 2}, {29, 19, 9, 5}, {355, 219, 33, 16}};
        for (int n = 0; n <= 4; n++) {
            for (int what = 0; what < 4; what++) {
                // on a new object, and asked for the second time
                Edge.anew();
                Edge.asks("list(" + n + ", " + what + ")", due[n][what]);
                Edge.does("list(" + n + ", " + what + ")", due[n][what]);
                Edge.asks("list(" + n + ", " + what + ")", due[n][what]);
            }
        }

        Edge.says(18, "BAD.");
        Edge.rich();
        Edge.range("list(#, 0)", 0, 4);
        Edge.range("list(4, #)", 0, 3);
        Edge.range("list(0, #)", 0, 3);
    }

    private static void listed() {
        Edge.says(19, "Of CODES of SPACES of n POINTS (0 to 4) that are their own FORM (plain 0: all, 1: PLAIN ones alone) "
            + "the i-th from 0 on, the lesser first (what 0)");
        Edge.asks("listed(0, 0, 0, 0)", 0);
        Edge.asks("listed(0, 1, 0, 0)", 0);
        Edge.asks("listed(1, 0, 0, 0)", 0);
        int[] two = {0, 1, 3};
        for (int i = 0; i < 3; i++) {
            Edge.asks("listed(2, 0, " + i + ", 0)", two[i]);
        }
        Edge.asks("listed(2, 1, 1, 0)", 1);
        Edge.asks("listed(3, 1, 4, 0)", 11);
        Edge.asks("listed(3, 0, 8, 0)", 63);
        Edge.asks("listed(4, 0, 0, 0)", 0);
        Edge.asks("listed(4, 0, 32, 0)", 4095);
        Edge.asks("listed(4, 1, 0, 0)", 0);
        Edge.asks("listed(4, 1, 15, 0)", 311);

        Edge.says(19, "or how many CODES have that FORM (1).");
        Edge.asks("listed(0, 0, 0, 1)", 1);
        Edge.asks("listed(2, 0, 1, 1)", 2);
        Edge.asks("listed(2, 0, 2, 1)", 1);
        Edge.asks("listed(4, 0, 0, 1)", 1);
        Edge.asks("listed(4, 0, 32, 1)", 1);
        Edge.asks("listed(4, 1, 15, 1)", 24);

        Edge.says(19, "BAD: n, plain, i below 0, what; NONE: there are not so many.");
        Edge.rich();
        Edge.range("listed(#, 0, 0, 0)", 0, 4);
        Edge.range("listed(4, #, 0, 0)", 0, 1);
        Edge.range("listed(4, 0, 0, #)", 0, 1);
        Edge.refused(Edge.BAD, "listed(4, 0, -1, 0)", "listed(4, 1, -1, 1)", "listed(0, 0, MIN, 0)");
        int[][] many = {{1, 1}, {1, 1}, {3, 2}, {9, 5}, {33, 16}};
        for (int n = 0; n <= 4; n++) {
            for (int plain = 0; plain < 2; plain++) {
                String head = "listed(" + n + ", " + plain + ", ";
                Edge.refused(Edge.NONE, head + many[n][plain] + ", 0)", head + many[n][plain] + ", 1)", head + "MAX, 0)");
            }
        }
        // BAD is named first
        Edge.refused(Edge.BAD, "listed(5, 0, 99, 0)", "listed(4, 2, 99, 0)", "listed(4, 0, 99, 2)", "listed(-1, -1, 99, -1)");
    }

    private static void tears() {
        Edge.says(20, "0 if a MAP TEARS nothing, else 1 and 8 times x and y of the first (by x, then y) that it tears.");
        Edge.asks("tears(0, 1, 0)", 0);
        Edge.text(0, Shapes.CHAIN2);
        Edge.text(1, Shapes.CHAIN8);
        Edge.run("points(2, 2)", "points(3, 8)");
        Edge.asks("tears(0, 0, " + Edge.map(0, 1) + ")", 0);
        Edge.asks("tears(0, 0, " + Edge.map(1, 1) + ")", 0);
        Edge.asks("tears(0, 0, " + Edge.map(1, 0) + ")", 1 + 8 * 1 + 0);
        Edge.asks("tears(1, 1, " + Edge.map(0, 1, 2, 3, 4, 5, 6, 7) + ")", 0);
        Edge.asks("tears(1, 1, " + Edge.map(0, 1, 2, 3, 4, 5, 7, 6) + ")", 1 + 8 * 7 + 6);
        Edge.asks("tears(1, 1, " + Edge.map(7, 6, 5, 4, 3, 2, 1, 0) + ")", 1 + 8 * 1 + 0);
        Edge.asks("tears(1, 1, " + Edge.map(0, 1, 2, 3, 4, 7, 6, 5) + ")", 1 + 8 * 6 + 5);
        // of alike ones 0 has 1 below it, too
        Edge.text(4, Shapes.ALIKE8);
        Edge.asks("tears(4, 3, " + Edge.map(0, 1, 0, 0, 0, 0, 0, 0) + ")", 1 + 8 * 0 + 1);
        Edge.asks("tears(4, 3, " + Edge.map(7, 7, 7, 7, 7, 7, 7, 7) + ")", 0);
        Edge.asks("tears(4, 3, " + Edge.map(0, 0, 0, 0, 0, 0, 0, 7) + ")", 1 + 8 * 0 + 7);
        Edge.asks("tears(2, 3, " + Edge.map(7, 0) + ")", 0);

        Edge.says(20, "BAD: also a MAP with a digit that is no POINT, or of more digits.");
        Edge.rich();
        Edge.run("points(4, 1)", "points(5, 0)");
        Edge.noSpace("tears(#, 0, 0)");
        Edge.noSpace("tears(5, #, 0)");
        // one point to three, to two, to one, to none
        Edge.range("tears(4, 0, #)", 0, 2);
        Edge.range("tears(4, 3, #)", 0, 1);
        Edge.range("tears(4, 4, #)", 0, 0);
        Edge.refused(Edge.BAD, "tears(4, 5, 0)", "tears(4, 5, -1)");
        // to eight points any digit goes: the next number has one digit more
        Edge.range("tears(4, 2, #)", 0, 7);
        Edge.range("tears(3, 2, #)", 0, 63);
        Edge.range("tears(2, 2, #)", 0, (1 << 24) - 1);
        Edge.range("tears(5, 2, #)", 0, 0);
        Edge.range("tears(5, 5, #)", 0, 0);
        // the last digit is no point; the others are
        Edge.refused(Edge.BAD, "tears(0, 0, " + Edge.map(0, 0, 3) + ")", "tears(0, 0, " + Edge.map(0, 0, 0, 1) + ")",
            "tears(0, 0, " + Edge.map(3, 0, 0) + ")", "tears(0, 0, " + (1 << 30) + ")");
    }

    private static void maps() {
        Edge.says(21, "How many MAPS TEAR nothing.");
        Edge.asks("maps(0, 1)", 1);
        Edge.run("points(0, 5)", "points(1, 8)");
        Edge.asks("maps(0, 1)", 32768);
        Edge.asks("maps(2, 1)", 1);
        Edge.asks("maps(0, 2)", 0);
        Edge.text(3, Shapes.ALIKE8);
        Edge.text(4, "5;0=1;1=2;2=3;3=4");
        Edge.asks("maps(4, 1)", 8);
        Edge.asks("maps(4, 3)", 32768);
        Edge.text(4, "5;1>0;2>1;3>2;4>3");
        Edge.text(3, Shapes.CHAIN8);
        // five of eight in order, each as often as one likes: 12 over 5
        Edge.asks("maps(4, 3)", 792);

        Edge.says(21, "BAD: also more than 5 POINTS in the first one.");
        Edge.rich();
        Edge.noSpace("maps(0, #)");
        Edge.refused(Edge.BAD, "maps(-1, 0)", "maps(6, 0)", "maps(MIN, 0)", "maps(MAX, 0)");
        Edge.refused(Edge.BAD, "maps(2, 0)", "maps(2, 4)");
        // the vee to the chain: the images of 1 and 2 are each at or above that of 0
        Edge.asks("maps(0, 2)", 64 + 49 + 36 + 25 + 16 + 9 + 4 + 1);
        Edge.run("points(4, 5)");
        Edge.asks("maps(4, 0)", 243);
        Edge.run("points(4, 6)");
        Edge.refused(Edge.BAD, "maps(4, 0)");
    }

    private static void fence() {
        Edge.says(22, "How many steps a shortest FENCE has between two MAPS (0: they are one).");
        Edge.asks("fence(0, 1, 0, 0)", 0);
        Edge.run("points(0, 1)", "points(2, 3)");
        Edge.text(1, Shapes.ZIGZAG8);
        for (int y = 0; y < 8; y++) {
            Edge.asks("fence(0, 1, 0, " + y + ")", y);
            Edge.asks("fence(0, 1, 7, " + y + ")", 7 - y);
        }
        Edge.asks("fence(2, 1, " + Edge.map(0, 0, 0) + ", " + Edge.map(7, 7, 7) + ")", 7);
        Edge.asks("fence(2, 1, " + Edge.map(7, 7, 7) + ", " + Edge.map(7, 7, 7) + ")", 0);
        // all go one step up, and all one step down: 0 and 2 are low, 1 is high
        Edge.asks("fence(2, 1, " + Edge.map(0, 0, 0) + ", " + Edge.map(1, 0, 1) + ")", 1);
        Edge.asks("fence(2, 1, " + Edge.map(0, 1, 0) + ", " + Edge.map(1, 0, 0) + ")", 2);
        Edge.text(3, Shapes.ALIKE8);
        Edge.asks("fence(2, 3, 0, 511)", 1);

        Edge.says(22, "BAD: also MAPS that TEAR, more than 3 POINTS in the first SPACE; NONE.");
        Edge.rich();
        Edge.noSpace("fence(4, #, 0, 0)");
        Edge.refused(Edge.BAD, "fence(-1, 0, 0, 0)", "fence(6, 0, 0, 0)", "fence(MIN, 0, 0, 0)", "fence(MAX, 0, 0, 0)");
        int torn = Edge.map(1, 0, 0);
        Edge.asks("fence(0, 0, 0, 0)", 0);
        Edge.refused(Edge.BAD, "fence(0, 0, " + torn + ", 0)", "fence(0, 0, 0, " + torn + ")",
            "fence(0, 0, " + torn + ", " + torn + ")");
        for (String call : new String[] {"fence(0, 0, #, 0)", "fence(0, 0, 0, #)"}) {
            Edge.bad(call, -1, Edge.map(3, 3, 3), Edge.map(0, 0, 3), 512);
        }
        for (String call : new String[] {"fence(4, 0, #, 0)", "fence(4, 0, 0, #)", "fence(4, 4, 0, #)"}) {
            Edge.range(call, 0, 0);
        }
        Edge.refused(Edge.BAD, "fence(1, 0, 0, 0)", "fence(2, 0, 0, 0)", "fence(5, 4, 0, 0)");
        Edge.run("points(1, 4)", "points(2, 3)", "points(4, 2)");
        Edge.refused(Edge.BAD, "fence(1, 4, 0, 0)");
        Edge.asks("fence(2, 4, 0, 0)", 0);
        Edge.refused(Edge.NONE, "fence(2, 4, 0, 1)", "fence(2, 4, 64, 0)", "fence(2, 4, 0, " + Edge.map(1, 1, 1) + ")");
        Edge.refused(Edge.BAD, "fence(2, 4, 0, 2)", "fence(0, 4, 0, " + torn + ")");
    }

    private static void fixed() {
        Edge.says(23, "POINTS that are their own image by a MAP of a SPACE to itself.");
        Edge.asks("fixed(0, 0)", 0);
        Edge.run("points(0, 8)", "points(1, 1)");
        Edge.asks("fixed(0, " + Edge.map(0, 1, 2, 3, 4, 5, 6, 7) + ")", 255);
        Edge.asks("fixed(0, " + Edge.map(1, 2, 3, 4, 5, 6, 7, 0) + ")", 0);
        Edge.asks("fixed(0, " + Edge.map(7, 7, 7, 7, 7, 7, 7, 7) + ")", 128);
        Edge.asks("fixed(0, 0)", 1);
        Edge.asks("fixed(1, 0)", 1);

        Edge.says(23, "BAD: also one that TEARS.");
        Edge.rich();
        Edge.refused(Edge.BAD, "fixed(0, " + Edge.map(1, 0, 0) + ")", "fixed(0, " + Edge.map(1, 1, 0) + ")");
        Edge.bad("fixed(0, #)", -1, Edge.map(0, 0, 3), Edge.map(0, 0, 0, 1));
        Edge.range("fixed(4, #)", 0, 0);
        Edge.range("fixed(2, #)", 0, (1 << 24) - 1);
        Edge.noSpace("fixed(#, 0)");
    }
}
