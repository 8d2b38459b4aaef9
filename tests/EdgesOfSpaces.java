/** Promises 1 to 7: spaces. */
final class EdgesOfSpaces {
    private EdgesOfSpaces() {
    }

    static void all() {
        newObjects();
        points();
        nest();
        of();
        beatsOf();
        about();
        told();
        path();
    }

    private static void newObjects() {
        Edge.says(1, "No POINTS anywhere.");
        for (int space = 0; space < 6; space++) {
            Edge.asks("told(" + space + ", 0)", 0);
        }
        Edge.asks("many(0)", 0);
        Edge.asks("many(1)", 0);
        Edge.asks("of(0, 0, 0)", Edge.BAD);
    }

    private static void points() {
        Edge.says(2, "A SPACE becomes one of n POINTS (0 to 8)");
        Edge.does("points(5, 8)", 0, "space 5");
        Edge.asks("told(5, 0)", 8);
        Edge.does("points(5, 0)", 8, "space 5");
        Edge.asks("told(5, 0)", 0);
        Edge.does("points(0, 1)", 0, "space 0");
        Edge.asks("told(0, 0)", 1);
        Edge.rich();
        Edge.range("points(0, #)", 0, 8);

        Edge.says(2, "none of which is BELOW another one");
        Edge.text(2, Shapes.ALIKE8);
        Edge.does("points(2, 8)", 8, "space 2");
        Edge.lows(2, "1 2 4 8 16 32 64 128");
        Edge.asks("told(2, 3)", 8);
        Edge.text(2, Shapes.CHAIN3);
        Edge.run("points(2, 0)", "points(2, 3)");
        Edge.lows(2, "1 2 4");

        Edge.says(2, "how many it had");
        Edge.does("points(0, 8)", 0, "space 0");
        Edge.does("points(0, 7)", 8, "space 0");
        Edge.does("points(0, 7)", 7, "space 0");
        Edge.does("points(0, 0)", 7, "space 0");
        Edge.does("points(0, 0)", 0, "space 0");

        Edge.says(2, "BAD.");
        Edge.rich();
        Edge.noSpace("points(#, 1)");
        Edge.bad("points(3, #)", -1, 9);
    }

    private static void nest() {
        Edge.says(3, "y is NESTED in x");
        Edge.run("points(4, 8)");
        Edge.does("nest(4, 7, 0)", 1, "space 4");
        Edge.lows(4, "1 2 4 8 16 32 64 129");
        Edge.does("nest(4, 0, 7)", 1, "space 4");
        Edge.lows(4, "129 2 4 8 16 32 64 129");

        Edge.says(3, "how many pairs (a POINT, one in its LOW) are new");
        Edge.run("points(0, 1)");
        Edge.does("nest(0, 0, 0)", 0, "space 0");
        Edge.text(0, "8;0=1;1=2;2=3;4=5;5=6;6=7");
        // all four LOW of one half take in the four of the other one: no call can have more that are new
        Edge.does("nest(0, 0, 4)", 16, "space 0");
        Edge.does("nest(0, 0, 4)", 0, "space 0");
        Edge.does("nest(0, 7, 3)", 16, "space 0");
        Edge.lows(0, "255 255 255 255 255 255 255 255");
        Edge.does("nest(0, 7, 0)", 0, "space 0");
        Edge.text(0, "4;1>0;2>1;3>0");
        // LOW of 2 is 0, 1, 2, of which 0 is in LOW of 3 already
        Edge.does("nest(0, 3, 2)", 2, "space 0");

        Edge.says(3, "BAD.");
        Edge.rich();
        for (String s : new String[] {"points(0, 3)", "points(1, 3)", "points(2, 3)", "points(3, 3)", "points(4, 3)", "points(5, 3)"}) {
            Edge.run(s);
        }
        Edge.noSpace("nest(#, 2, 0)");
        Edge.range("nest(0, #, 0)", 0, 2);
        Edge.range("nest(0, 0, #)", 0, 2);
        Edge.run("points(0, 8)", "points(1, 0)");
        Edge.range("nest(0, #, 7)", 0, 7);
        Edge.range("nest(0, 7, #)", 0, 7);
        Edge.refused(Edge.BAD, "nest(1, 0, 0)", "nest(0, 8, 8)");
    }

    private static void of() {
        Edge.says(4, "Of a POINT: 0 LOW, 1 HIGH, 2 HEIGHT, 3 those ALIKE to it (itself, too), 4 its PART");
        Edge.run("points(0, 1)");
        int[] alone = {1, 1, 0, 1, 1};
        for (int what = 0; what < 5; what++) {
            Edge.asks("of(0, 0, " + what + ")", alone[what]);
        }
        Edge.text(0, Shapes.CHAIN8);
        int[] bottom = {1, 255, 0, 1, 255};
        int[] top = {255, 128, 7, 128, 255};
        for (int what = 0; what < 5; what++) {
            Edge.asks("of(0, 0, " + what + ")", bottom[what]);
            Edge.asks("of(0, 7, " + what + ")", top[what]);
        }
        Edge.text(0, Shapes.DOWN8);
        for (int what = 0; what < 5; what++) {
            Edge.asks("of(0, 7, " + what + ")", new int[] {128, 255, 0, 128, 255}[what]);
            Edge.asks("of(0, 0, " + what + ")", new int[] {255, 1, 7, 1, 255}[what]);
        }
        Edge.text(0, Shapes.ALIKE8);
        int[] alike = {255, 255, 0, 255, 255};
        for (int what = 0; what < 5; what++) {
            Edge.asks("of(0, 7, " + what + ")", alike[what]);
        }
        Edge.run("points(0, 8)");
        int[] last = {128, 128, 0, 128, 128};
        for (int what = 0; what < 5; what++) {
            Edge.asks("of(0, 7, " + what + ")", last[what]);
        }

        Edge.says(4, "BAD.");
        Edge.rich();
        Edge.range("of(0, #, 0)", 0, 2);
        Edge.range("of(2, #, 5)", 0, 7);
        Edge.range("of(0, 0, #)", 0, 5);
        Edge.refused(Edge.BAD, "of(4, 0, 0)", "of(4, -1, 0)");
        Edge.run("points(4, 1)");
        Edge.noSpace("of(#, 0, 0)");
    }

    private static void beatsOf() {
        Edge.says(4, "5 together 1 if it is a DOWN BEAT, 2 if an UP BEAT, 4 if it MAY GO by weak");
        Edge.run("points(0, 1)");
        Edge.asks("of(0, 0, 5)", 0);
        Edge.text(0, Shapes.CHAIN3);
        Edge.asks("of(0, 0, 5)", 2 + 4);
        Edge.asks("of(0, 1, 5)", 1 + 2 + 4);
        Edge.asks("of(0, 2, 5)", 1 + 4);
        Edge.text(0, "2;0>1");
        Edge.asks("of(0, 0, 5)", 1 + 4);
        Edge.asks("of(0, 1, 5)", 2 + 4);
        Edge.text(0, Shapes.TWINS);
        Edge.asks("of(0, 0, 5)", 4);
        Edge.asks("of(0, 1, 5)", 4);
        // 4 has a zigzag of four below it, which shrinks, but no beat's one that has all of it
        Edge.text(0, "5;1>0,2;3>2;4>1,3");
        Edge.asks("of(0, 4, 5)", 4);
        Edge.text(0, Shapes.CIRCLE);
        for (int x = 0; x < 4; x++) {
            Edge.asks("of(0, " + x + ", 5)", 0);
        }
    }

    private static void about() {
        Edge.says(5, "Of a set of POINTS: 0 INSIDE, 1 CLOSURE, 2 EDGE, 3 together 1 if it is OPEN, 2 if CLOSED");
        int[] none = {0, 0, 0, 3};
        int[] all = {255, 255, 0, 3};
        for (int what = 0; what < 4; what++) {
            Edge.asks("about(0, 0, " + what + ")", none[what]);
        }
        Edge.text(0, Shapes.CHAIN8);
        int[] lowest = {1, 255, 254, 1};
        int[] highest = {0, 128, 128, 2};
        for (int what = 0; what < 4; what++) {
            Edge.asks("about(0, 0, " + what + ")", none[what]);
            Edge.asks("about(0, 255, " + what + ")", all[what]);
            Edge.asks("about(0, 1, " + what + ")", lowest[what]);
            Edge.asks("about(0, 128, " + what + ")", highest[what]);
        }
        Edge.asks("about(0, 2, 3)", 0);
        Edge.run("points(0, 8)");
        Edge.asks("about(0, 128, 3)", 3);

        Edge.says(5, "BAD.");
        Edge.rich();
        Edge.noSpace("about(#, 0, 0)");
        Edge.range("about(0, 7, #)", 0, 3);
        Edge.range("about(0, #, 0)", 0, 7);
        Edge.range("about(2, #, 0)", 0, 255);
        Edge.range("about(4, #, 0)", 0, 0);
        // a point that is there does not help one that is not
        Edge.refused(Edge.BAD, "about(0, 9, 0)", "about(0, 15, 3)", "about(0, 256, 0)", "about(0, -8, 1)");
    }

    private static void toldDue(int space, int... due) {
        for (int what = 0; what < 7; what++) {
            Edge.asks("told(" + space + ", " + what + ")", due[what]);
        }
    }

    private static void told() {
        Edge.says(6, "Of a SPACE: 0 how many POINTS, 1 pairs of one STRICTLY below another one, 2 COVERS, 3 PARTS,");
        Edge.run("points(0, 1)");
        toldDue(0, 1, 0, 0, 1, 0, 2, 1);
        Edge.run("points(0, 8)");
        toldDue(0, 8, 0, 0, 8, 0, 256, 1);
        Edge.text(0, Shapes.CHAIN8);
        toldDue(0, 8, 28, 7, 1, 7, 9, 1);
        Edge.text(0, Shapes.DOWN8);
        toldDue(0, 8, 28, 7, 1, 7, 9, 1);
        Edge.text(0, Shapes.ALIKE8);
        toldDue(0, 8, 0, 0, 1, 0, 2, 0);

        Edge.says(6, "4 the greatest HEIGHT (NONE: no POINTS)");
        Edge.asks("told(0, 4)", Edge.NONE);
        Edge.run("points(0, 1)");
        Edge.asks("told(0, 4)", 0);
        Edge.run("points(0, 0)");
        Edge.asks("told(0, 4)", Edge.NONE);
        // the greatest is neither of the first point nor of the last one
        Edge.text(0, "5;2>1;3>2");
        Edge.asks("told(0, 4)", 2);

        Edge.says(6, "5 OPEN sets, 6 1 if it is PLAIN, else 0");
        toldDue(0, 0, 0, 0, 0, Edge.NONE, 1, 1);
        // of the lower four any set, or all of them and some of the upper four
        Edge.text(0, Shapes.FOUR_FOUR);
        toldDue(0, 8, 16, 16, 1, 1, 16 + 15, 1);
        Edge.text(0, "8;0=7");
        toldDue(0, 8, 0, 0, 7, 0, 128, 0);

        Edge.says(6, "BAD.");
        Edge.rich();
        Edge.noSpace("told(#, 0)");
        Edge.range("told(0, #)", 0, 6);
        Edge.range("told(4, #)", 0, 6);
    }

    private static void path() {
        Edge.says(7, "The fewest STEPS from one to another one.");
        Edge.text(0, Shapes.ZIGZAG8);
        for (int y = 0; y < 8; y++) {
            Edge.asks("path(0, 0, " + y + ")", y);
            Edge.asks("path(0, 7, " + y + ")", 7 - y);
        }
        Edge.text(0, Shapes.CHAIN8);
        Edge.asks("path(0, 7, 0)", 1);
        Edge.asks("path(0, 0, 7)", 1);
        Edge.asks("path(0, 3, 3)", 0);
        Edge.text(0, Shapes.TWINS);
        Edge.asks("path(0, 0, 1)", 1);
        Edge.run("points(0, 1)");
        Edge.asks("path(0, 0, 0)", 0);

        Edge.says(7, "BAD; NONE.");
        Edge.rich();
        Edge.refused(Edge.NONE, "path(5, 0, 4)", "path(5, 4, 0)", "path(5, 0, 2)");
        Edge.range("path(0, #, 0)", 0, 2);
        Edge.range("path(0, 0, #)", 0, 2);
        Edge.range("path(2, 7, #)", 0, 7);
        Edge.refused(Edge.BAD, "path(4, 0, 0)");
        Edge.run("points(4, 1)");
        Edge.noSpace("path(#, 0, 0)");
    }
}
