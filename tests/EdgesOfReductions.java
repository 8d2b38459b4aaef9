/** Promises 8 to 14: reductions. */
final class EdgesOfReductions {
    private EdgesOfReductions() {
    }

    static void all() {
        may();
        price();
        left();
        reduce();
        ways();
        unlikeEnds();
        retract();
        homotopic();
    }

    private static void may() {
        Edge.says(8, "Those of a set of POINTS that MAY GO WITHIN it.");
        Edge.text(0, Shapes.CHAIN8);
        Edge.text(1, Shapes.ALIKE8);
        int[] chain = {0, 254, 127, 255, 255, 126};
        int[] alike = {255, 255, 255, 255, 255, 0};
        for (int kind = 0; kind < 6; kind++) {
            Edge.asks("may(0, " + kind + ", 255)", chain[kind]);
            Edge.asks("may(1, " + kind + ", 255)", alike[kind]);
            Edge.asks("may(0, " + kind + ", 0)", 0);
            Edge.asks("may(0, " + kind + ", 1)", 0);
            Edge.asks("may(1, " + kind + ", 128)", 0);
            Edge.asks("may(2, " + kind + ", 0)", 0);
        }
        // within the ends of the chain they are one below the other, though they have all others between them
        int[] ends = {0, 128, 1, 129, 129, 0};
        for (int kind = 0; kind < 6; kind++) {
            Edge.asks("may(0, " + kind + ", 129)", ends[kind]);
        }

        Edge.says(8, "BAD.");
        Edge.rich();
        Edge.noSpace("may(#, 0, 0)");
        Edge.range("may(0, #, 7)", 0, 5);
        Edge.range("may(0, 3, #)", 0, 7);
        Edge.range("may(2, 3, #)", 0, 255);
        Edge.range("may(4, 3, #)", 0, 0);
    }

    private static void price() {
        Edge.says(9, "PRICE of a POINT (WITHIN all).");
        Edge.text(0, Shapes.CHAIN8);
        Edge.text(1, Shapes.ALIKE8);
        int[] bottom = {1, 1, 8, 1, 3, 7};
        int[] top = {1, 8, 1, 8, 17, 0};
        int[] alike = {1, 1, 1, 1, 3, 0};
        for (int kind = 0; kind < 6; kind++) {
            Edge.asks("price(0, " + kind + ", 0)", bottom[kind]);
            Edge.asks("price(0, " + kind + ", 7)", top[kind]);
            Edge.asks("price(1, " + kind + ", 7)", alike[kind]);
        }

        Edge.says(9, "BAD.");
        Edge.rich();
        Edge.run("points(4, 1)");
        Edge.noSpace("price(#, 0, 0)");
        Edge.range("price(0, #, 0)", 0, 5);
        Edge.range("price(0, 0, #)", 0, 2);
        Edge.range("price(2, 5, #)", 0, 7);
        Edge.run("points(4, 0)");
        Edge.refused(Edge.BAD, "price(4, 0, 0)");
    }

    private static void left() {
        Edge.says(10, "LEFT.");
        Edge.text(0, Shapes.CHAIN8);
        int[][] chain = {{255, 255, 255, 255}, {1, 1, 1, 1}, {128, 128, 128, 128}, {128, 1, 128, 1}, {128, 1, 128, 1},
            {129, 129, 129, 129}};
        // the greatest number is the lowest, and of the least price
        int[][] down = {{255, 255, 255, 255}, {128, 128, 128, 128}, {1, 1, 1, 1}, {128, 1, 1, 128}, {128, 1, 1, 128},
            {129, 129, 129, 129}};
        Edge.text(1, Shapes.ALIKE8);
        Edge.text(3, Shapes.DOWN8);
        for (int kind = 0; kind < 6; kind++) {
            for (int order = 0; order < 4; order++) {
                Edge.asks("left(0, " + kind + ", " + order + ")", chain[kind][order]);
                Edge.asks("left(3, " + kind + ", " + order + ")", down[kind][order]);
                // all prices are one; the greatest goes first by order 1 alone
                Edge.asks("left(1, " + kind + ", " + order + ")", kind == 5 ? 255 : order == 1 ? 1 : 128);
                Edge.asks("left(2, " + kind + ", " + order + ")", 0);
            }
        }
        Edge.run("points(2, 1)", "points(3, 8)");
        for (int kind = 0; kind < 6; kind++) {
            Edge.asks("left(2, " + kind + ", 0)", 1);
            Edge.asks("left(3, " + kind + ", 3)", 255);
        }

        Edge.says(10, "BAD.");
        Edge.rich();
        Edge.noSpace("left(#, 0, 0)");
        Edge.range("left(0, #, 0)", 0, 5);
        Edge.range("left(0, 0, #)", 0, 3);
        Edge.range("left(4, #, 0)", 0, 5);
        Edge.range("left(4, 0, #)", 0, 3);
    }

    private static void reduce() {
        Edge.says(11, "What is LEFT becomes a SPACE (that one, too)");
        Edge.text(0, Shapes.CHAIN8);
        Edge.text(1, Shapes.CIRCLE);
        Edge.does("reduce(0, 3, 0, 1)", 1, "space 1");
        Edge.lows(1, "1");
        Edge.does("reduce(0, 5, 0, 0)", 2, "space 0");
        Edge.lows(0, "1 3");
        Edge.does("reduce(5, 3, 0, 0)", 0, "space 0");
        Edge.asks("told(0, 0)", 0);
        Edge.run("points(0, 8)");
        Edge.does("reduce(0, 4, 3, 5)", 8, "space 5");
        Edge.lows(5, "1 2 4 8 16 32 64 128");

        Edge.says(11, "numbered anew as it was in order: how many POINTS.");
        // 0 and 3 are alike: by order 0 0 goes and 1 2 3 4 5 become 0 1 2 3 4, by order 1 3 goes, and 4 5 become 3 4
        Edge.text(0, "6;0=3;3>5;5>1;4>2");
        Edge.does("reduce(0, 0, 0, 1)", 5, "space 1");
        Edge.lows(1, "1 2 21 10 17");
        Edge.does("reduce(0, 0, 1, 2)", 5, "space 2");
        Edge.lows(2, "19 2 4 12 18");

        Edge.says(11, "BAD.");
        Edge.rich();
        Edge.noSpace("reduce(#, 0, 0, 4)");
        Edge.noSpace("reduce(0, 0, 0, #)");
        Edge.range("reduce(0, #, 0, 4)", 0, 5);
        Edge.range("reduce(0, 0, #, 4)", 0, 3);
    }

    private static void waysDue(int space, int kind, int... due) {
        for (int what = 0; what < 4; what++) {
            Edge.asks("ways(" + space + ", " + kind + ", " + what + ")", due[what]);
        }
    }

    private static void ways() {
        Edge.says(12, "0 how many WAYS, 1 how many ENDS, 2 the least of ENDS,");
        Edge.run("points(1, 1)", "points(2, 8)");
        for (int kind = 0; kind < 6; kind++) {
            // where none may go, there is one way: none goes
            waysDue(0, kind, 1, 1, 0, 1);
            waysDue(1, kind, 1, 1, 1, 1);
            waysDue(2, kind, 1, 1, 255, 1);
        }
        Edge.text(3, Shapes.ALIKE8);
        Edge.text(4, Shapes.CHAIN8);
        for (int kind = 0; kind < 5; kind++) {
            waysDue(3, kind, 40320, 8, 1, 1);
        }
        waysDue(3, 5, 1, 1, 255, 1);
        waysDue(4, 0, 1, 1, 255, 1);
        waysDue(4, 1, 5040, 1, 1, 1);
        waysDue(4, 2, 5040, 1, 128, 1);
        waysDue(4, 3, 40320, 8, 1, 1);
        waysDue(4, 4, 40320, 8, 1, 1);
        waysDue(4, 5, 720, 1, 129, 1);

        Edge.says(12, "BAD.");
        Edge.rich();
        Edge.noSpace("ways(#, 0, 0)");
        Edge.range("ways(0, #, 0)", 0, 5);
        Edge.range("ways(0, 3, #)", 0, 3);
        Edge.range("ways(4, 3, #)", 0, 3);
    }

    private static void unlikeEnds() {
        Edge.says(12, "3 how many ENDS if of those that are SAME as SPACES one is counted.");
        // two pairs of alike ones, the one below the other: each end has one of each pair
        Edge.text(0, "4;0=1;2=3;2>0");
        waysDue(0, 0, 8, 4, 5, 1);
        // by weak there are ends that are not the same: 4 and 0, or 4 and 1, each below 5, 6, 7; and three low ones,
        // two of them below 5, two below 6, all three below 7
        Edge.text(1, "8;1>0;2>1;3>0;5>2,4;6>1,3,4;7>2,3,4");
        waysDue(1, 4, 10, 3, 241, 2);
        waysDue(2, 4, 1, 1, 0, 1);
    }

    private static void retract() {
        Edge.says(13, "THE RETRACT, as a MAP of the SPACE to itself.");
        Edge.asks("retract(0)", 0);
        Edge.run("points(0, 1)");
        Edge.asks("retract(0)", 0);
        Edge.run("points(0, 8)");
        Edge.asks("retract(0)", Edge.map(0, 1, 2, 3, 4, 5, 6, 7));
        Edge.text(0, Shapes.CHAIN8);
        Edge.asks("retract(0)", (1 << 24) - 1);
        Edge.text(0, Shapes.ALIKE8);
        Edge.asks("retract(0)", (1 << 24) - 1);
        Edge.text(0, Shapes.CIRCLE);
        Edge.asks("retract(0)", Edge.map(0, 1, 2, 3));
        Edge.text(0, Shapes.DOWN8);
        Edge.asks("retract(0)", (1 << 24) - 1);

        Edge.says(13, "BAD.");
        Edge.rich();
        Edge.noSpace("retract(#)");
    }

    private static void homotopic() {
        Edge.says(14, "1 if two SPACES are HOMOTOPIC, else 0.");
        Edge.run("points(0, 1)", "points(3, 2)");
        Edge.text(1, Shapes.CHAIN8);
        Edge.text(2, Shapes.ALIKE8);
        Edge.asks("homotopic(0, 1)", 1);
        Edge.asks("homotopic(1, 0)", 1);
        Edge.asks("homotopic(1, 2)", 1);
        Edge.asks("homotopic(2, 2)", 1);
        Edge.asks("homotopic(3, 0)", 0);
        Edge.asks("homotopic(0, 3)", 0);
        // no points at all are no point
        Edge.asks("homotopic(4, 0)", 0);
        Edge.asks("homotopic(0, 4)", 0);
        Edge.asks("homotopic(4, 5)", 1);
        Edge.asks("homotopic(4, 4)", 1);

        Edge.says(14, "BAD.");
        Edge.rich();
        Edge.noSpace("homotopic(#, 0)");
        Edge.noSpace("homotopic(0, #)");
    }
}
