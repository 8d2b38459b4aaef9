/** Promises 24 to 30: chains, complexes, what is made. */
final class EdgesOfChains {
    private EdgesOfChains() {
    }

    static void all() {
        chains();
        euler();
        holes();
        divide();
        faces();
        facesRefused();
        made();
        madeFull();
        madeRefused();
        part();
    }

    private static void chains() {
        Edge.says(24, "How many CHAINS of k POINTS (1 to 8).");
        Edge.text(0, Shapes.CHAIN8);
        Edge.run("points(1, 8)", "points(3, 1)");
        Edge.text(2, Shapes.ALIKE8);
        Edge.text(4, Shapes.CHAIN7);
        int[] eight = {8, 28, 56, 70, 56, 28, 8, 1};
        int[] seven = {7, 21, 35, 35, 21, 7, 1, 0};
        for (int k = 1; k <= 8; k++) {
            Edge.asks("chains(0, " + k + ")", eight[k - 1]);
            Edge.asks("chains(1, " + k + ")", k == 1 ? 8 : 0);
            Edge.asks("chains(2, " + k + ")", k == 1 ? 1 : 0);
            Edge.asks("chains(3, " + k + ")", k == 1 ? 1 : 0);
            Edge.asks("chains(4, " + k + ")", seven[k - 1]);
            Edge.asks("chains(5, " + k + ")", 0);
        }

        Edge.says(24, "BAD.");
        Edge.rich();
        Edge.noSpace("chains(#, 1)");
        Edge.range("chains(0, #)", 1, 8);
        Edge.range("chains(4, #)", 1, 8);
    }

    private static void euler() {
        Edge.says(25, "1000 and EULER.");
        Edge.asks("euler(0)", 1000);
        Edge.run("points(0, 1)", "points(1, 8)");
        Edge.text(2, Shapes.CHAIN8);
        Edge.text(3, Shapes.ALIKE8);
        Edge.text(4, Shapes.FOUR_FOUR);
        Edge.text(5, "8;2>0,1;3>0,1;4>2,3;5>2,3;6>4,5;7>4,5");
        Edge.asks("euler(0)", 1001);
        Edge.asks("euler(1)", 1008);
        Edge.asks("euler(2)", 1001);
        Edge.asks("euler(3)", 1001);
        // less than none: 8 less 16
        Edge.asks("euler(4)", 992);
        // 8 less 24, and 32, less 16
        Edge.asks("euler(5)", 1000);

        Edge.says(25, "BAD.");
        Edge.rich();
        Edge.noSpace("euler(#)");
    }

    private static void holesDue(int space, int... due) {
        for (int k = 0; k < 8; k++) {
            Edge.asks("holes(" + space + ", " + k + ")", k < due.length ? due[k] : 0);
        }
    }

    private static void holes() {
        Edge.says(26, "HOLES of size k (0 to 7).");
        holesDue(0);
        Edge.run("points(0, 1)", "points(1, 7)");
        Edge.text(2, Shapes.CHAIN7);
        Edge.text(3, Shapes.SPHERE);
        Edge.text(4, "7;3>0,1,2;4>0,1,2;5>0,1,2;6>0,1,2");
        Edge.text(5, "7;0=1;1=2;2=3;3=4;4=5;5=6");
        holesDue(0, 1);
        holesDue(1, 7);
        // of seven in a row there are 35 chains of three and 35 of four
        holesDue(2, 1);
        holesDue(3, 1, 0, 1);
        holesDue(4, 1, 6);
        holesDue(5, 1);
        Edge.text(0, "7;2>0,1;3>0,1;4>2,3;5>2,3;6>2,3");
        holesDue(0, 1, 0, 2);
        // 0 holds the others together
        Edge.text(0, "7;1>0;2>0;3>0;0>4;0>5;0>6");
        holesDue(0, 1);
        Edge.text(0, "7;1>0;2>0;3>0;4>0;5>0;6>0");
        holesDue(0, 1);
        // two circles apart would need eight points; one of six with a point apart
        Edge.text(0, "7;3>0,1;4>1,2;5>2,0");
        holesDue(0, 2, 1);

        Edge.says(26, "BAD: also more than 7 POINTS.");
        Edge.rich();
        Edge.refused(Edge.BAD, "holes(2, 0)", "holes(2, 7)", "holes(-1, 0)", "holes(6, 0)", "holes(MIN, 0)", "holes(MAX, 0)");
        Edge.range("holes(0, #)", 0, 7);
        Edge.range("holes(4, #)", 0, 7);
        Edge.asks("holes(5, 0)", 3);
        Edge.run("space(4)");
        Edge.text(4, Shapes.ALIKE8);
        // of which one alone is a FIRST one, but there are eight
        Edge.refused(Edge.BAD, "holes(4, 0)", "holes(4, 1)");
        Edge.run("points(4, 7)");
        Edge.asks("holes(4, 0)", 7);
    }

    private static void divide() {
        Edge.says(27, "A SPACE becomes the SPACE OF SETS of the CHAINS of another one (or its own): how many POINTS.");
        Edge.run("points(1, 3)");
        Edge.does("divide(0, 1)", 0, "space 1");
        Edge.asks("told(1, 0)", 0);
        Edge.run("points(0, 1)");
        Edge.does("divide(0, 0)", 1, "space 0");
        Edge.lows(0, "1");
        Edge.text(0, Shapes.CHAIN3);
        Edge.does("divide(0, 5)", 7, "space 5");
        // {0}, {1}, {2}, {0, 1}, {0, 2}, {1, 2}, all
        Edge.lows(5, "1 2 4 11 21 38 127");
        Edge.does("divide(0, 0)", 7, "space 0");
        Edge.lows(0, "1 2 4 11 21 38 127");

        Edge.says(27, "BAD; FULL: more than 8.");
        Edge.rich();
        Edge.noSpace("divide(0, #)");
        Edge.range("divide(#, 4)", 0, 5);
        Edge.refused(Edge.FULL, "divide(2, 4)", "divide(2, 2)");
        Edge.does("divide(1, 4)", 8, "space 4");
        // eight sets, nine sets
        Edge.run("space(5)");
        Edge.text(5, "6;1>0;3>2");
        Edge.does("divide(5, 4)", 8, "space 4");
        Edge.text(5, "7;1>0;3>2");
        Edge.refused(Edge.FULL, "divide(5, 4)", "divide(5, 5)");
        Edge.run("points(5, 8)");
        Edge.does("divide(5, 4)", 8, "space 4");
        Edge.text(5, "8;1>0");
        Edge.refused(Edge.FULL, "divide(5, 4)");
        Edge.refused(Edge.BAD, "divide(5, 6)", "divide(5, -1)");
    }

    private static void faces() {
        Edge.says(28, "A SPACE becomes the SPACE OF SETS of all that have something and are in one of n (1 to 8) sets (each 1 to 15) "
            + "that a SHEET of chars tells from place i on: how many POINTS.");
        Edge.row(3, 1, 1, 8, 7, 3, 6, 5, 1, 2, 4, 8, 8, 1);
        Edge.run("points(0, 8)");
        Edge.does("faces(3, 0, 1, 0)", 1, "space 0");
        Edge.lows(0, "1");
        Edge.does("faces(3, 0, 2, 0)", 2, "space 0");
        Edge.lows(0, "1 2");
        // 8 and all of 7: eight sets, in order 1, 2, 4, 8, 3, 5, 6, 7
        Edge.does("faces(3, 1, 2, 0)", 8, "space 0");
        Edge.lows(0, "1 2 4 8 19 37 70 247");
        // a set that is in another one is no more; from the first place to the last one
        Edge.does("faces(3, 3, 8, 5)", 7, "space 5");
        Edge.lows(5, "1 2 4 8 19 37 70");
        Edge.does("faces(3, 4, 8, 5)", 6, "space 5");
        Edge.lows(5, "1 2 4 8 21 38");
        Edge.does("faces(3, 11, 1, 5)", 1, "space 5");
    }

    private static void facesRefused() {
        Edge.says(28, "BAD: sheet, n, space; -11; -13; -12; BAD: another number; FULL: more than 8.");
        Edge.rich();
        Edge.run("sheet(1, 1, 8)");
        for (int i = 0; i < 8; i++) {
            Edge.run("put(1, " + i + ", 1)");
        }
        Edge.noSpace("faces(1, 0, 1, #)");
        Edge.range("faces(1, 0, #, 4)", 1, 8);
        Edge.range("faces(#, 0, 1, 4)", 0, 3);
        Edge.refused(Edge.NOTHING, "faces(3, 0, 1, 4)", "faces(3, -1, 8, 4)");
        Edge.refused(Edge.OTHER, "faces(0, 0, 1, 4)", "faces(2, 0, 1, 4)", "faces(0, 99, 1, 4)", "faces(2, -1, 1, 4)");
        Edge.refused(Edge.OUTSIDE, "faces(1, -1, 1, 4)", "faces(1, 8, 1, 4)", "faces(1, 1, 8, 4)", "faces(1, 7, 2, 4)",
            "faces(1, MAX, 8, 4)", "faces(1, MIN, 1, 4)");
        Edge.does("faces(1, 7, 1, 4)", 1, "space 4");
        Edge.does("faces(1, 0, 8, 4)", 1, "space 4");
        // of several the first named
        Edge.refused(Edge.BAD, "faces(4, 0, 1, 4)", "faces(3, 0, 0, 4)", "faces(3, 0, 9, 4)", "faces(3, 0, 1, 6)",
            "faces(0, 0, 9, 4)", "faces(1, 9, 9, 4)", "faces(1, 9, 1, -1)");
        // each number 1 to 15: 0 and 16 are others, and what is above
        Edge.row(1, 1, 1, 15, 0, 16, 65535, 17, 1, 32768);
        Edge.refused(Edge.BAD, "faces(1, 2, 1, 4)", "faces(1, 3, 1, 4)", "faces(1, 4, 1, 4)", "faces(1, 5, 1, 4)",
            "faces(1, 7, 1, 4)", "faces(1, 5, 2, 4)", "faces(1, 6, 2, 4)");
        Edge.refused(Edge.FULL, "faces(1, 1, 1, 4)", "faces(1, 0, 2, 4)");
        Edge.refused(Edge.BAD, "faces(1, 1, 2, 4)", "faces(1, 0, 3, 4)");
        Edge.refused(Edge.OUTSIDE, "faces(1, 1, 8, 4)");
        // eight sets, nine sets
        Edge.row(1, 1, 7, 8, 9, 7);
        Edge.does("faces(1, 0, 2, 4)", 8, "space 4");
        Edge.refused(Edge.FULL, "faces(1, 2, 2, 4)", "faces(1, 0, 3, 4)", "faces(1, 0, 4, 4)");
        Edge.run("sheet(1, 1, 0)");
        Edge.refused(Edge.OUTSIDE, "faces(1, 0, 1, 4)");
    }

    private static void made() {
        Edge.says(29, "A SPACE becomes: 0 one turned over (y BELOW x just if x was BELOW y); "
            + "1 both (those of b behind those of a, none BELOW one of the other); 2 both so, but all of a BELOW all of b;");
        Edge.text(0, Shapes.VEE);
        Edge.text(1, Shapes.CHAIN2);
        Edge.does("made(0, 0, 0, 2)", 3, "space 2");
        Edge.lows(2, "7 2 4");
        Edge.does("made(0, 0, 0, 0)", 3, "space 0");
        Edge.lows(0, "7 2 4");
        Edge.does("made(1, 0, 1, 2)", 5, "space 2");
        Edge.lows(2, "7 2 4 8 24");
        Edge.does("made(2, 0, 1, 2)", 5, "space 2");
        Edge.lows(2, "7 2 4 15 31");
        Edge.does("made(2, 1, 1, 1)", 4, "space 1");
        Edge.lows(1, "1 3 7 15");
        // of none
        Edge.does("made(0, 5, 5, 2)", 0, "space 2");
        Edge.does("made(1, 5, 0, 2)", 3, "space 2");
        Edge.lows(2, "7 2 4");
        Edge.does("made(2, 0, 5, 2)", 3, "space 2");
        Edge.lows(2, "7 2 4");
        Edge.does("made(2, 5, 5, 2)", 0, "space 2");

        Edge.says(29, "3 all pairs of one of a and one of b (numbered by the one of a, then that of b; BELOW, if both are);");
        Edge.text(0, "3;2>0");
        Edge.text(1, Shapes.CHAIN2);
        // 00 01 10 11 20 21
        Edge.does("made(3, 0, 1, 2)", 6, "space 2");
        Edge.lows(2, "1 3 4 12 17 51");
        Edge.does("made(3, 1, 0, 2)", 6, "space 2");
        Edge.lows(2, "1 2 5 9 18 45");
        Edge.does("made(3, 5, 0, 2)", 0, "space 2");
        Edge.does("made(3, 0, 5, 1)", 0, "space 1");

        Edge.says(29, "4 a, and behind them one that all are BELOW; 5 a, and behind them two that all of a are BELOW; "
            + "6 FIRST ones of a: how many POINTS.");
        Edge.text(0, "3;0=2");
        Edge.does("made(4, 0, 0, 1)", 4, "space 1");
        Edge.lows(1, "5 2 5 15");
        Edge.does("made(5, 0, 0, 1)", 5, "space 1");
        Edge.lows(1, "5 2 5 15 23");
        Edge.does("made(6, 0, 0, 1)", 2, "space 1");
        Edge.lows(1, "1 2");
        Edge.anew();
        Edge.text(0, "3;0>1;1>2");
        Edge.does("made(4, 0, 0, 1)", 4, "space 1");
        Edge.lows(1, "7 6 4 15");
        Edge.does("made(5, 0, 0, 1)", 5, "space 1");
        Edge.lows(1, "7 6 4 15 23");
        Edge.does("made(4, 5, 0, 1)", 1, "space 1");
        Edge.lows(1, "1");
        Edge.does("made(5, 5, 0, 1)", 2, "space 1");
        Edge.lows(1, "1 2");
        Edge.does("made(6, 5, 0, 1)", 0, "space 1");
        Edge.text(0, Shapes.ALIKE8);
        Edge.does("made(6, 0, 0, 0)", 1, "space 0");
        Edge.text(0, Shapes.CHAIN8);
        Edge.does("made(6, 0, 0, 1)", 8, "space 1");
        Edge.lows(1, "1 3 7 15 31 63 127 255");
    }

    private static void madeFull() {
        Edge.says(29, "FULL: more than 8.");
        Edge.rich();
        Edge.run("points(0, 8)", "points(1, 1)", "points(2, 4)", "points(3, 5)");
        Edge.refused(Edge.FULL, "made(1, 0, 1, 4)", "made(1, 1, 0, 4)", "made(2, 0, 1, 4)", "made(2, 2, 3, 4)",
            "made(3, 2, 3, 4)", "made(3, 0, 0, 4)", "made(4, 0, 0, 4)", "made(5, 0, 0, 4)", "made(1, 0, 0, 0)");
        Edge.does("made(1, 0, 4, 4)", 8, "space 4");
        Edge.does("made(1, 2, 2, 4)", 8, "space 4");
        Edge.does("made(2, 2, 2, 4)", 8, "space 4");
        Edge.lows(4, "1 2 4 8 31 47 79 143");
        Edge.does("made(3, 0, 1, 4)", 8, "space 4");
        Edge.does("made(3, 1, 0, 4)", 8, "space 4");
        Edge.lows(4, "1 2 4 8 16 32 64 128");
        Edge.run("points(1, 2)", "points(5, 3)");
        Edge.does("made(3, 1, 2, 4)", 8, "space 4");
        // three times three
        Edge.refused(Edge.FULL, "made(3, 5, 5, 4)");
        Edge.run("points(0, 7)", "points(1, 6)");
        Edge.does("made(4, 0, 0, 4)", 8, "space 4");
        Edge.lows(4, "1 2 4 8 16 32 64 255");
        Edge.refused(Edge.FULL, "made(5, 0, 0, 4)");
        Edge.does("made(5, 1, 0, 4)", 8, "space 4");
        Edge.lows(4, "1 2 4 8 16 32 127 191");
    }

    private static void madeRefused() {
        Edge.says(29, "(b counts by 1 to 3 alone.) BAD: what, a, to, b that counts;");
        Edge.rich();
        Edge.range("made(#, 4, 4, 4)", 0, 6);
        for (int what = 0; what <= 6; what++) {
            Edge.noSpace("made(" + what + ", #, 4, 4)");
            Edge.noSpace("made(" + what + ", 4, 4, #)");
        }
        for (int what = 1; what <= 3; what++) {
            Edge.noSpace("made(" + what + ", 4, #, 4)");
            Edge.refused(Edge.BAD, "made(" + what + ", 2, 6, 4)", "made(" + what + ", 2, -1, 4)");
        }
        // b counts nothing, whatever it is
        for (int b : new int[] {-1, 6, Integer.MIN_VALUE, Integer.MAX_VALUE}) {
            Edge.answers("made(0, 0, " + b + ", 4)", 3);
            Edge.answers("made(4, 0, " + b + ", 4)", 4);
            Edge.answers("made(5, 0, " + b + ", 4)", 5);
            Edge.answers("made(6, 0, " + b + ", 4)", 3);
        }
        // BAD is named ahead of FULL
        Edge.refused(Edge.BAD, "made(4, 2, 0, 6)", "made(1, 2, 2, -1)", "made(7, 2, 2, 4)");
    }

    private static void part() {
        Edge.says(30, "A set of POINTS of one becomes a SPACE: how many.");
        Edge.text(0, Shapes.CHAIN8);
        Edge.does("part(0, 0, 1)", 0, "space 1");
        Edge.does("part(0, 255, 1)", 8, "space 1");
        Edge.lows(1, "1 3 7 15 31 63 127 255");
        Edge.does("part(0, 129, 1)", 2, "space 1");
        Edge.lows(1, "1 3");
        Edge.does("part(0, 128, 0)", 1, "space 0");
        Edge.lows(0, "1");
        Edge.does("part(0, 0, 0)", 0, "space 0");
        Edge.does("part(0, 0, 1)", 0, "space 1");

        Edge.says(30, "BAD.");
        Edge.rich();
        Edge.noSpace("part(#, 0, 4)");
        Edge.noSpace("part(0, 7, #)");
        Edge.range("part(0, #, 4)", 0, 7);
        Edge.range("part(2, #, 4)", 0, 255);
        Edge.range("part(4, #, 4)", 0, 0);
        Edge.refused(Edge.BAD, "part(0, 9, 4)", "part(0, 256, 4)", "part(0, -8, 4)");
    }
}
