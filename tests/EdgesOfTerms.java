/** The terms: what the words of the promises mean. */
final class EdgesOfTerms {
    private static final int MIN = Integer.MIN_VALUE, MAX = Integer.MAX_VALUE;

    private EdgesOfTerms() {
    }

    static void all() {
        refusals();
        orders();
        openSets();
        rowsOfPoints();
        beats();
        kinds();
        shrinking();
        prices();
        leaving();
        retracting();
        sameness();
        maps();
        chains();
        tape();
        texts();
        faults();
        draws();
        rows();
        acts();
        bodies();
    }

    // ---- what answers below 0 say

    private static void refusals() {
        Edge.term(0, "Answers below 0, where not told otherwise, are refusals; such a call changes nothing "
            + "(but that THE TAPE is used up by space());");
        Edge.rich();
        Edge.refused(Edge.BAD, "points(6, 1)", "nest(0, 3, 0)", "of(0, 3, 0)", "about(0, 8, 0)", "told(0, 7)", "path(0, 3, 0)",
            "may(0, 6, 0)", "price(0, 6, 0)", "left(0, 0, 4)", "reduce(0, 0, 4, 1)", "ways(0, 0, 4)", "retract(6)",
            "homotopic(0, 6)", "same(0, 1, 3)", "form(2)", "byCode(0, 3, 9)", "list(5, 0)", "listed(4, 0, -1, 0)",
            "tears(0, 0, 3)", "maps(2, 0)", "fence(1, 0, 0, 0)", "fixed(0, 3)", "chains(0, 0)", "euler(6)", "holes(2, 0)",
            "divide(0, 6)", "faces(1, 5, 1, 0)", "made(7, 0, 0, 0)", "part(0, 8, 0)", "feed(0, 0)", "space(6)",
            "draw(0, 9, 50)", "sheet(0, 0, 41)", "put(4, 0, 0)", "item(0, 3, 0)", "copy(4, 0, 0, 0, 1)", "lay(0, 4, 0)",
            "take(0, 0, 9, 0)", "shelf(0, 0, 6)", "taken(0, 6)", "many(5)");
        Edge.refused(Edge.FULL, "divide(2, 0)", "faces(1, 7, 1, 0)", "made(3, 0, 0, 0)");
        Edge.refused(Edge.NONE, "told(4, 4)", "path(5, 0, 4)", "same(0, 1, 0)", "listed(4, 0, 33, 0)", "trace(14)");
        Edge.refused(Edge.NOTHING, "put(3, 0, 1)", "faces(3, 0, 1, 0)", "copy(3, 0, 0, 0, 1)", "lay(0, 3, 0)", "take(3, 0, 1, 0)",
            "item(3, 0, 0)", "taken(2, 0)");
        Edge.refused(Edge.OTHER, "faces(0, 0, 1, 0)", "item(0, 1, 0)", "copy(0, 0, 1, 0, 1)", "lay(0, 2, 0)", "take(2, 0, 1, 0)",
            "taken(1, 0)");
        Edge.refused(Edge.OUTSIDE, "faces(1, 9, 1, 0)", "put(0, 5, 1)", "item(0, 0, 5)", "copy(0, 5, 0, 0, 1)", "lay(0, 0, 3)",
            "take(0, 5, 1, 0)");
        Edge.refused(Edge.BELOW_0, "sheet(0, 0, -1)");
        Edge.feed("?");
        Edge.does("space(0)", -105, "tape");

        Edge.term(0, "of several the first named: BAD (-1) there is no such thing, or a number is not as told; FULL (-2); NONE (-3);");
        Edge.check("BAD", NestedPoints.BAD, -1);
        Edge.check("FULL", NestedPoints.FULL, -2);
        Edge.check("NONE", NestedPoints.NONE, -3);
        Edge.rich();
        Edge.feed(" ".repeat(95));
        Edge.refused(Edge.BAD, "feed(0, 9)", "feed(0, 0)", "divide(2, 6)", "made(4, 2, 0, -1)", "made(1, 2, 6, 0)", "listed(4, 0, 99, 2)",
            "told(4, 7)", "told(6, 4)", "path(5, 0, 5)", "same(0, 1, 3)", "fence(5, 0, 0, 0)");
        Edge.refused(Edge.FULL, "feed(0, 1)");

        Edge.term(0, "and what the host refuses: -11 nothing where something is asked, -12 a place outside, "
            + "-13 a thing of another sort or kind, -14 a size below 0.");
        Edge.rich();
        Edge.refused(-11, "item(3, 1, 0)", "taken(2, 3)");
        Edge.refused(-12, "item(0, 0, 5)", "item(0, 0, -1)");
        Edge.refused(-13, "item(0, 1, 0)", "taken(0, 5)", "taken(0, 10)");
        Edge.refused(-14, "sheet(3, 0, -1)");

        Edge.term(0, "Sets are told by bits (of points by their numbers).");
        Edge.run("points(0, 8)", "nest(0, 7, 0)");
        Edge.asks("of(0, 0, 0)", 1);
        Edge.asks("of(0, 6, 0)", 64);
        Edge.asks("of(0, 7, 0)", 129);
        Edge.asks("about(0, 129, 0)", 129);
        Edge.asks("many(2)", 63);
    }

    // ---- 1 spaces

    private static void orders() {
        Edge.term(1, "SPACES 0 to 5, each of POINTS 0, 1, .. (8 at most; none at first).");
        Edge.asks("told(0, 0)", 0);
        Edge.asks("told(5, 0)", 0);
        Edge.does("points(0, 8)", 0, "space 0");
        Edge.does("points(5, 8)", 0, "space 5");
        Edge.refused(Edge.BAD, "points(-1, 8)", "points(6, 8)", "points(0, 9)", "points(5, 9)", "nest(0, 8, 0)", "nest(0, 0, 8)");
        Edge.does("nest(0, 7, 0)", 1, "space 0");

        Edge.term(1, "LOW of a POINT is a set of POINTS: itself, and of each that is in it all that is in LOW of that.");
        Edge.run("points(0, 3)");
        Edge.lows(0, "1 2 4");
        // 1 comes into LOW of 2, and only then 0 into that of 1
        Edge.run("nest(0, 2, 1)");
        Edge.lows(0, "1 2 6");
        Edge.run("nest(0, 1, 0)");
        Edge.lows(0, "1 3 7");

        Edge.term(1, "y is BELOW x, x ABOVE y, if y is in LOW of x (each is BELOW itself). HIGH of a POINT: all that are ABOVE it.");
        Edge.run("points(0, 1)");
        Edge.asks("of(0, 0, 1)", 1);
        Edge.text(0, Shapes.CHAIN8);
        for (int x = 0; x < 8; x++) {
            Edge.asks("of(0, " + x + ", 0)", (2 << x) - 1);
            Edge.asks("of(0, " + x + ", 1)", 256 - (1 << x));
        }

        Edge.term(1, "ALIKE: each is BELOW the other one (itself, too). STRICTLY below, above: so, and not ALIKE.");
        Edge.text(0, "4;0=3;1>0");
        Edge.asks("of(0, 0, 3)", 9);
        Edge.asks("of(0, 3, 3)", 9);
        Edge.asks("of(0, 1, 3)", 2);
        Edge.asks("of(0, 2, 3)", 4);
        // 0 and 3 strictly below 1, and no others
        Edge.asks("told(0, 1)", 2);
        Edge.asks("price(0, 1, 1)", 3);
        Edge.asks("price(0, 2, 0)", 2);
        Edge.asks("price(0, 1, 0)", 1);

        Edge.term(1, "A SPACE is PLAIN if no two POINTS are ALIKE. FIRST ones: to which no lesser one is ALIKE.");
        Edge.asks("told(0, 6)", 1);
        Edge.run("points(0, 1)");
        Edge.asks("told(0, 6)", 1);
        Edge.text(0, "8;6=7");
        Edge.asks("told(0, 6)", 0);
        Edge.does("made(6, 0, 0, 1)", 7, "space 1");
        Edge.text(0, "4;3=0;2=1");
        Edge.does("made(6, 0, 0, 1)", 2, "space 1");
        Edge.asks("chains(0, 1)", 2);

        Edge.term(1, "TO NEST y in x: LOW of y comes into LOW of all that are ABOVE x (so y is BELOW x, and nothing more than must be follows).");
        Edge.text(0, "5;1>0;3>2;4>2");
        Edge.does("nest(0, 0, 3)", 4, "space 0");
        // 0 and 1 are above 3 now, and 2; 4 is above none of them
        Edge.lows(0, "13 15 4 12 20");
        // 0, 2 and 3 are alike then: what is above one of them is above all
        Edge.does("nest(0, 2, 0)", 5, "space 0");
        Edge.lows(0, "13 15 13 13 29");
    }

    private static void openSets() {
        Edge.term(1, "OPEN is a set that has LOW of each of its POINTS; CLOSED, if all others together are OPEN.");
        Edge.asks("about(0, 0, 3)", 3);
        Edge.text(0, Shapes.VEE);
        int[] due = {3, 1, 2, 1, 2, 1, 2, 3};
        for (int set = 0; set < 8; set++) {
            Edge.asks("about(0, " + set + ", 3)", due[set]);
        }
        Edge.text(0, Shapes.CHAIN3);
        int[] chain = {3, 1, 0, 1, 2, 0, 2, 3};
        for (int set = 0; set < 8; set++) {
            Edge.asks("about(0, " + set + ", 3)", chain[set]);
        }

        Edge.term(1, "INSIDE of a set: its POINTS of which it has all LOW. CLOSURE: POINTS of which LOW has some of it. "
            + "EDGE: what is in CLOSURE and not INSIDE.");
        int[][] of = {{0, 0, 0}, {1, 7, 6}, {0, 2, 2}, {3, 7, 4}, {0, 4, 4}, {5, 7, 2}, {0, 6, 6}, {7, 7, 0}};
        Edge.text(0, Shapes.VEE);
        for (int set = 0; set < 8; set++) {
            for (int what = 0; what < 3; what++) {
                Edge.asks("about(0, " + set + ", " + what + ")", of[set][what]);
                Edge.asks("about(1, 0, " + what + ")", 0);
            }
        }
    }

    private static void rowsOfPoints() {
        Edge.term(1, "HEIGHT of a POINT: how many there are, less 1, in a longest row of POINTS, each STRICTLY below the next, that ends with it.");
        Edge.text(0, Shapes.CHAIN8);
        for (int x = 0; x < 8; x++) {
            Edge.asks("of(0, " + x + ", 2)", x);
        }
        Edge.text(0, Shapes.ALIKE8);
        Edge.asks("of(0, 7, 2)", 0);
        // the longest row to 4 is 0 1 2 4, though 3 is below it, too; alike ones are one step
        Edge.text(0, "7;1>0;2>1;4>2,3;1=5;6>4");
        Edge.asks("of(0, 4, 2)", 3);
        Edge.asks("of(0, 5, 2)", 1);
        Edge.asks("of(0, 6, 2)", 4);
        Edge.asks("of(0, 3, 2)", 0);

        Edge.term(1, "COVERS: pairs of y STRICTLY below x so that nothing is STRICTLY above y and STRICTLY below x.");
        Edge.text(0, "4;1>0;1=2;3>1");
        Edge.asks("told(0, 2)", 4);
        Edge.asks("told(0, 1)", 5);
        Edge.text(0, Shapes.FOUR_FOUR);
        Edge.asks("told(0, 2)", 16);
        Edge.text(0, Shapes.ALIKE8);
        Edge.asks("told(0, 2)", 0);

        Edge.term(1, "A STEP: from one to another one that is BELOW or ABOVE it. PART of a POINT: all that come of it by STEPS.");
        Edge.text(0, Shapes.ZIGZAG8);
        Edge.asks("path(0, 0, 7)", 7);
        Edge.asks("of(0, 0, 4)", 255);
        Edge.asks("told(0, 3)", 1);
        // without the one between: two parts, and no way
        Edge.text(0, "8;1>0,2;3>2;5>4,6;7>6");
        Edge.asks("of(0, 0, 4)", 15);
        Edge.asks("of(0, 7, 4)", 240);
        Edge.asks("told(0, 3)", 2);
        Edge.asks("path(0, 3, 4)", Edge.NONE);
        Edge.run("points(0, 8)");
        Edge.asks("of(0, 7, 4)", 128);
        Edge.asks("told(0, 3)", 8);
    }

    // ---- 2 reductions

    private static void beats() {
        Edge.term(2, "WITHIN a set of POINTS all is said as if there were no others.");
        Edge.text(0, "4;2>0,1;3>2");
        Edge.asks("may(0, 1, 15)", 8);
        // without 1, 2 has one alone below it; without 2, 3 has two that are not below one another
        Edge.asks("may(0, 1, 13)", 12);
        Edge.asks("may(0, 1, 11)", 0);
        Edge.asks("may(0, 1, 8)", 0);

        Edge.term(2, "A DOWN BEAT: to which no other one is ALIKE, and of those STRICTLY below it some one has all BELOW it;");
        Edge.text(0, "7;1>0;2=3;4>2;5>0,2;6=1");
        int[] down = {0, 0, 0, 0, 1, 0, 0};
        for (int x = 0; x < 7; x++) {
            Edge.asks("of(0, " + x + ", 5)", (x == 0 || x == 5 ? 0 : 4) + down[x]);
        }

        Edge.term(2, "an UP BEAT: likewise of those STRICTLY above it some one has all ABOVE it. (So there must be some.)");
        Edge.text(0, "7;0>1;2=3;2>4;0>5;2>5;1=6");
        int[] up = {0, 0, 0, 0, 2, 0, 0};
        for (int x = 0; x < 7; x++) {
            Edge.asks("of(0, " + x + ", 5)", (x == 0 || x == 5 ? 0 : 4) + up[x]);
        }
        Edge.run("points(0, 8)");
        Edge.asks("may(0, 3, 255)", 0);
    }

    private static void kinds() {
        Edge.term(2, "KINDS of REDUCTIONS, by which a POINT MAY GO: 0 like: another one is ALIKE to it. "
            + "1 down (under like): as like, or it is a DOWN BEAT. 2 up (under like): as like, or an UP BEAT. "
            + "3 beat (under down): as down, or an UP BEAT.");
        // 0 and 1 alike; 3 a down beat above 2, with two above it; 7 an up beat below 6, with two below it
        Edge.text(0, "8;0=1;3>2;4>3,7;5>3");
        Edge.asks("may(0, 0, 255)", 3);
        Edge.asks("may(0, 1, 255)", 3 + 8 + 32);
        // 2 has 3, 4, 5 above it, all above 3; 7 has 4 alone
        Edge.asks("may(0, 2, 255)", 3 + 4 + 128);
        Edge.asks("may(0, 3, 255)", 3 + 8 + 32 + 4 + 128);
        String[] under = {"0", "01", "02", "013", "0134", "025"};
        for (int kind = 0; kind < 6; kind++) {
            Edge.run("shelf(0, 0, " + kind + ")");
            for (int as = 0; as < 6; as++) {
                Edge.asks("taken(0, " + as + ")", under[kind].indexOf('0' + as) >= 0 ? kind : Edge.OTHER);
            }
        }

        Edge.term(2, "4 weak (under beat): as beat, or those STRICTLY below it SHRINK, or those STRICTLY above it do.");
        Edge.text(0, "5;1>0,2;3>2;4>1,3");
        // no beats: 4 has a zigzag of four below it, 2 has 1 and 3 above it, which are below 4
        Edge.asks("may(0, 3, 31)", 1 + 2 + 8);
        Edge.asks("may(0, 4, 31)", 31);
        Edge.asks("may(0, 4, 16)", 0);
        // turned over: 4 has the zigzag above it
        Edge.text(0, "5;0>1;2>1,3;1>4;3>4");
        Edge.asks("may(0, 3, 31)", 1 + 2 + 8);
        Edge.asks("may(0, 4, 31)", 31);

        Edge.term(2, "5 strict (under up): as up, and some are STRICTLY below it.");
        Edge.text(0, Shapes.CHAIN3);
        Edge.asks("may(0, 5, 7)", 2);
        // alike ones: with none below them, and with one
        Edge.text(0, "5;0=1;3>2;3=4");
        Edge.asks("may(0, 5, 31)", 8 + 16);
        // below it there must be some of the set itself
        Edge.asks("may(0, 5, 27)", 0);
        Edge.asks("may(0, 5, 12)", 0);
    }

    private static void shrinking() {
        Edge.term(2, "A set of POINTS SHRINKS if, WITHIN it, one alone is LEFT by beat, least first (of none: it doesn't).");
        // of none: a point with nothing below and above it stays
        Edge.run("points(0, 1)");
        Edge.asks("may(0, 4, 1)", 0);
        Edge.run("points(0, 8)");
        Edge.asks("may(0, 4, 255)", 0);
        // one: a chain of two
        Edge.text(0, Shapes.CHAIN2);
        Edge.asks("may(0, 4, 3)", 3);
        // two apart do not shrink, a circle does not
        Edge.text(0, "3;2>0,1");
        Edge.asks("may(0, 4, 7)", 3);
        Edge.text(0, "5;2>0,1;3>0,1;4>2,3");
        Edge.asks("may(0, 4, 31)", 15);
        // a circle without one of the lower ones is a zigzag
        Edge.asks("may(0, 4, 30)", 30);
        // the same sets in another space, on the same object: what was found of the one does not count for the other
        Edge.text(1, "5;2>0,1;3>1;4>2,3");
        Edge.asks("may(1, 4, 31)", 31);
        Edge.asks("may(0, 4, 31)", 15);
        // seven below the eighth: a zigzag of seven, and one of six with a point apart
        Edge.text(0, "8;1>0,2;3>2,4;5>4,6;7>1,3,5");
        Edge.asks("may(0, 4, 255)", 255);
        Edge.text(0, "8;1>0,2;3>2,4;5>4;7>1,3,5,6");
        Edge.asks("may(0, 4, 255)", 127);
    }

    private static void pricesDue(int space, int kind, int... due) {
        for (int x = 0; x < due.length; x++) {
            Edge.asks("price(" + space + ", " + kind + ", " + x + ")", due[x]);
        }
    }

    private static void prices() {
        Edge.term(2, "PRICE of a POINT: like: 1. down: as like, and how many are STRICTLY below it. "
            + "up: as like, and how many are STRICTLY above it. beat: as down. weak: as beat, twice that and 1. strict: as up, less 1.");
        // 0 = 1 below 2 below 3
        Edge.text(0, "4;0=1;2>0;3>2");
        pricesDue(0, 0, 1, 1, 1, 1);
        pricesDue(0, 1, 1, 1, 3, 4);
        pricesDue(0, 2, 3, 3, 2, 1);
        pricesDue(0, 3, 1, 1, 3, 4);
        pricesDue(0, 4, 3, 3, 7, 9);
        pricesDue(0, 5, 2, 2, 1, 0);
    }

    private static void leftDue(int space, int kind, int... due) {
        for (int order = 0; order < 4; order++) {
            Edge.asks("left(" + space + ", " + kind + ", " + order + ")", due[order]);
        }
    }

    private static void leaving() {
        Edge.term(2, "LEFT by a KIND and an ORDER: again and again, WITHIN what is left, one of those that MAY GO goes, till none may: "
            + "by ORDER 0 that of the least number, 1 of the greatest number, 2 of the least PRICE, 3 of the greatest PRICE "
            + "(of these that of the least number).");
        // 0 is the dearest, 2 costs least: the four orders leave these
        Edge.text(0, "3;0>1;1>2");
        leftDue(0, 3, 4, 1, 1, 4);
        // three alike: of equal prices the least number goes
        Edge.text(0, "3;0=1;1=2");
        leftDue(0, 0, 4, 1, 4, 4);
        // prices are told within what is left: when 2 has gone, 1 costs 2 as 3 does, and goes, and then 0
        Edge.text(0, "4;3>0;2>0;1>2");
        Edge.asks("left(0, 3, 2)", 8);
        Edge.asks("left(0, 4, 2)", 8);
        // 0, 1 and 2 cost 1, 2 and 3
        Edge.text(0, "3;1>0;2>1");
        leftDue(0, 3, 4, 1, 4, 1);

        Edge.term(2, "CORE: what is LEFT by beat, ORDER 0.");
        // the core of a circle with more is a circle: of a zigzag one point, of none none
        Edge.text(0, "6;2>0,1;3>0,1;4>2;5=3");
        Edge.text(1, Shapes.CIRCLE);
        Edge.asks("homotopic(0, 1)", 1);
        Edge.text(2, Shapes.ZIGZAG8);
        Edge.run("points(3, 1)");
        Edge.asks("homotopic(2, 3)", 1);
        Edge.asks("homotopic(4, 5)", 1);
        Edge.asks("homotopic(4, 3)", 0);
        Edge.asks("homotopic(1, 3)", 0);

        Edge.term(2, "WAYS by a KIND: all rows in which POINTS may go one by one, WITHIN what is left then, till none may; "
            + "ENDS: the unlike sets that are left by them.");
        // a vee by beat: 1 or 2 goes upon 0, and then two may; 0 may not go first
        Edge.text(0, Shapes.VEE);
        int[] due = {4, 3, 1, 1};
        for (int what = 0; what < 4; what++) {
            Edge.asks("ways(0, 3, " + what + ")", due[what]);
        }
        // none may go: one row of none
        Edge.asks("ways(1, 3, 0)", 1);
        Edge.asks("ways(1, 3, 1)", 1);
        Edge.asks("ways(4, 3, 0)", 1);
        Edge.asks("ways(4, 3, 1)", 1);
    }

    private static void retracting() {
        Edge.term(2, "THE RETRACT to the CORE: as by beat, ORDER 0, but each that goes is put upon one that is left then: "
            + "the least that is ALIKE to it;");
        Edge.text(0, "4;0=2;2=3;1>0");
        // 0 upon 2, 1 (a down beat) upon 2 as well, 2 upon 3
        Edge.asks("retract(0)", Edge.map(3, 3, 3, 3));
        Edge.text(0, "6;2>0,1;3>0,1;4=2;5=3");
        Edge.asks("retract(0)", Edge.map(0, 1, 4, 5, 4, 5));

        Edge.term(2, "if there is none, and it is a DOWN BEAT, the least of those STRICTLY below it that have all such BELOW them;");
        // 0 is a down beat and an up beat; below it 3 and 4, alike, have all; above it 1
        Edge.text(0, "7;0>3;3=4;1>0;1>2;5>2;5>3;6>2;6>3");
        Edge.check("0 is both", Edge.answer("of(0, 0, 5)"), 7);
        Edge.check("0 goes upon 3, 1 stays, 3 upon 4, 2 stays", Edge.answer("retract(0)"), Edge.map(4, 1, 2, 4, 4, 5, 6));

        // 0 is above 3 of a sphere, and above the two that 3 has below it: upon 3, the one that has them
        Edge.text(0, "7;3>1,2;4>1,2;5>3,4;6>3,4;0>3");
        Edge.asks("retract(0)", Edge.map(3, 1, 2, 3, 4, 5, 6));

        Edge.term(2, "else the least of those STRICTLY above it that have all such ABOVE them; what was put upon it goes along.");
        Edge.text(0, "3;1=2;1>0");
        Edge.asks("retract(0)", Edge.map(2, 2, 2));
        // 0 upon 1, with it upon 2, .. : all go along to the last
        Edge.text(0, Shapes.CHAIN8);
        Edge.asks("retract(0)", (1 << 24) - 1);
        // 0 is below 3 of a sphere, and below the two that 3 has above it
        Edge.text(0, "7;3>1,2;4>1,2;5>3,4;6>3,4;3>0");
        Edge.asks("retract(0)", Edge.map(3, 1, 2, 3, 4, 5, 6));
        // from above to below: 1 upon 0, then 2, which had 1 below it, upon 0; then 0 upon 3
        Edge.text(0, "4;1>0;2>1;3>0");
        Edge.asks("retract(0)", Edge.map(3, 3, 3, 3));

        Edge.term(2, "HOMOTOPIC: two SPACES of which the CORES (each by itself) are SAME.");
        Edge.text(0, Shapes.CIRCLE);
        Edge.text(1, "6;0>3,5;4>3,5;1>0;2=4");
        Edge.asks("homotopic(0, 1)", 1);
        Edge.text(2, Shapes.SPHERE);
        Edge.asks("homotopic(0, 2)", 0);
        Edge.asks("homotopic(2, 2)", 1);
        Edge.asks("homotopic(3, 4)", 1);
    }

    // ---- 3 sameness and maps

    private static void sameness() {
        Edge.term(3, "SAME: there is a RENUMBERING of one SPACE to another one of as many POINTS, to each its own, "
            + "by which y is BELOW x just if it is so for their images;");
        Edge.text(0, "3;1>0");
        Edge.text(1, "3;0>2");
        Edge.text(2, Shapes.VEE);
        Edge.text(3, "2;1>0");
        Edge.asks("same(0, 1, -1)", 1);
        // one has more that is below: neither way is it just so
        Edge.asks("same(0, 2, -1)", 0);
        Edge.asks("same(2, 0, -1)", 0);
        // as many points: not two of three, nor three of two
        Edge.asks("same(3, 0, -1)", 0);
        Edge.asks("same(0, 3, -1)", 0);
        Edge.asks("same(4, 5, -1)", 1);

        Edge.term(3, "the first: by the images of POINTS 0, 1, .., the lesser first.");
        Edge.text(0, Shapes.CIRCLE);
        Edge.text(1, "4;0>1,3;2>1,3");
        int[] first = {1, 3, 0, 2};
        for (int i = 0; i < 4; i++) {
            Edge.asks("same(0, 1, " + i + ")", first[i]);
            Edge.asks("same(0, 0, " + i + ")", i);
        }

        Edge.term(3, "CODE of a SPACE of 5 POINTS at most: a bit for each x and each other y, x first (lowest bit first): 1 if y is BELOW x.");
        int[][] bits = {{}, {}, {1, 2}, {1, 2, 4, 8, 16, 32}};
        for (int n = 2; n <= 3; n++) {
            int bit = 0;
            for (int x = 0; x < n; x++) {
                for (int y = 0; y < n; y++) {
                    if (y != x) {
                        Edge.run("byCode(0, " + n + ", " + bits[n][bit] + ")");
                        Edge.asks("of(0, " + x + ", 0)", 1 << x | 1 << y);
                        Edge.asks("told(0, 1)", 1);
                        bit++;
                    }
                }
            }
        }
        Edge.run("byCode(0, 5, " + (1 << 19) + ")");
        Edge.asks("of(0, 4, 0)", 16 + 8);
        Edge.refused(Edge.BAD, "byCode(0, 6, 0)", "byCode(0, 5, " + (1 << 20) + ")");

        Edge.term(3, "FORM: the least CODE by any numbering.");
        for (int code : new int[] {1, 2, 4, 8, 16, 32}) {
            Edge.run("byCode(0, 3, " + code + ")");
            Edge.asks("form(0)", 1);
        }
        Edge.run("byCode(0, 5, " + (1 << 19) + ")");
        Edge.asks("form(0)", 1);
        Edge.asks("form(1)", 0);
    }

    private static void maps() {
        Edge.term(3, "MAPS from one SPACE to another one are told as digits in eights: the image of POINT 0 the lowest digit.");
        Edge.run("points(0, 8)");
        Edge.asks("fixed(0, " + 076543210 + ")", 255);
        Edge.asks("fixed(0, " + 070000000 + ")", 128 + 1);
        Edge.asks("fixed(0, 7)", 0);

        Edge.term(3, "One TEARS nothing if the image of y is BELOW that of x for each y BELOW x.");
        Edge.text(0, Shapes.CHAIN2);
        Edge.text(1, Shapes.TWINS);
        Edge.asks("tears(0, 0, " + Edge.map(0, 1) + ")", 0);
        Edge.asks("tears(0, 0, " + Edge.map(1, 0) + ")", 9);
        Edge.asks("tears(0, 1, " + Edge.map(1, 0) + ")", 0);
        Edge.asks("tears(1, 0, " + Edge.map(0, 1) + ")", 2);
        Edge.asks("tears(1, 0, " + Edge.map(1, 1) + ")", 0);
        Edge.asks("maps(0, 0)", 3);
        Edge.asks("maps(1, 0)", 2);

        Edge.term(3, "A FENCE between two such MAPS: MAPS that TEAR nothing, from the one to the other one, "
            + "each next one BELOW or ABOVE the one ahead at all POINTS (BELOW at all, or ABOVE at all).");
        Edge.text(0, Shapes.CHAIN2);
        Edge.text(1, Shapes.TWINS);
        Edge.run("points(2, 2)");
        // one goes up, the other one down: not at once
        Edge.asks("fence(2, 0, " + Edge.map(0, 1) + ", " + Edge.map(1, 0) + ")", 2);
        Edge.asks("fence(2, 0, " + Edge.map(0, 0) + ", " + Edge.map(1, 1) + ")", 1);
        Edge.asks("fence(2, 0, " + Edge.map(1, 1) + ", " + Edge.map(0, 0) + ")", 1);
        Edge.asks("fence(2, 1, " + Edge.map(0, 1) + ", " + Edge.map(1, 0) + ")", 1);
        // from all upon the one top of a vee to all upon the other one: down, and up
        Edge.text(3, Shapes.VEE);
        Edge.asks("fence(2, 3, " + Edge.map(1, 1) + ", " + Edge.map(2, 2) + ")", 2);
        // a chain around a half of a circle: not by way of maps that tear
        Edge.text(4, Shapes.CIRCLE);
        Edge.asks("fence(0, 4, " + Edge.map(0, 2) + ", " + Edge.map(1, 3) + ")", 3);
        Edge.asks("fence(2, 2, 0, 1)", Edge.NONE);
        // a row 0 2 1 3, up, down, up: 2 goes the whole of it in three steps, but in these 0 could go from 3 to 2 and 1
        // from 1 to 0 by a map alone that tears
        Edge.text(0, "3;0>1");
        Edge.text(1, "4;2>0,1;3>1");
        Edge.asks("fence(0, 1, " + Edge.map(3, 1, 0) + ", " + Edge.map(2, 0, 3) + ")", 4);
        Edge.asks("fence(0, 1, " + Edge.map(2, 0, 3) + ", " + Edge.map(3, 1, 0) + ")", 4);
    }

    // ---- 4 chains

    private static void chains() {
        Edge.term(4, "CHAINS of a SPACE: sets of one or more of its FIRST POINTS, of each two of which one is STRICTLY below the other one.");
        Edge.text(0, "5;3=0;4=1;1>0;2>1");
        int[] due = {3, 3, 1, 0};
        for (int k = 1; k <= 4; k++) {
            Edge.asks("chains(0, " + k + ")", due[k - 1]);
            Edge.asks("chains(1, " + k + ")", 0);
        }

        Edge.term(4, "EULER: CHAINS of odd many POINTS less those of even many.");
        Edge.asks("euler(1)", 1000);
        Edge.text(0, Shapes.CHAIN3);
        Edge.asks("euler(0)", 1000 + 3 - 3 + 1);
        Edge.text(0, Shapes.FOUR_FOUR);
        Edge.asks("euler(0)", 1000 + 8 - 16);

        Edge.term(4, "HOLES of size k: how many CHAINS of k and 1 POINTS, less the RANKS of k and of k and 1; RANK of k (1 or more; of 0: 0):");
        Edge.asks("holes(1, 0)", 0);
        Edge.run("points(0, 7)");
        // 7 less nothing and nothing
        Edge.asks("holes(0, 0)", 7);
        Edge.text(0, Shapes.CHAIN7);
        // all of seven are one chain: of 7 and 1 points there is none, and all of 7 points is needed
        for (int k = 0; k <= 7; k++) {
            Edge.asks("holes(0, " + k + ")", k == 0 ? 1 : 0);
        }

        Edge.term(4, "of the rows, one for each CHAIN of k and 1 POINTS, that tell which CHAINS of k POINTS are in it, "
            + "how many are needed to make all by sums of bits (1 and 1 is 0).");
        // without 0 the two rows of a vee would be one
        Edge.text(0, Shapes.VEE);
        Edge.asks("holes(0, 0)", 3 - 0 - 2);
        Edge.asks("holes(0, 1)", 2 - 2 - 0);
        // the four rows of a circle sum up to nothing: three are needed
        Edge.text(0, Shapes.CIRCLE);
        Edge.asks("holes(0, 0)", 4 - 0 - 3);
        Edge.asks("holes(0, 1)", 4 - 3 - 0);
        // of a sphere: 6, 12, 8 chains; 5 and 7 are needed
        Edge.text(0, Shapes.SPHERE);
        Edge.asks("holes(0, 0)", 6 - 5);
        Edge.asks("holes(0, 1)", 12 - 5 - 7);
        Edge.asks("holes(0, 2)", 8 - 7);
        Edge.asks("holes(0, 3)", 0);

        Edge.term(4, "A SPACE OF SETS: a POINT for each of told sets, in order by how many they have, then as numbers; LOW: all that are in it.");
        // 8 comes ahead of 3: it has fewer
        Edge.row(0, 1, 3, 8);
        Edge.does("faces(0, 0, 2, 1)", 4, "space 1");
        Edge.lows(1, "1 2 4 11");
        Edge.row(0, 1, 12, 6);
        // 2, 4, 8, 6, 12
        Edge.does("faces(0, 0, 2, 1)", 5, "space 1");
        Edge.lows(1, "1 2 4 11 22");
    }

    // ---- 5 the tape, draws, sheets, shelves, acts

    private static void tape() {
        Edge.term(5, "THE TAPE takes bytes, 100 at most; space() uses it up.");
        Edge.asks("many(3)", 0);
        Edge.feed("3" + " ".repeat(99));
        Edge.asks("many(3)", 100);
        Edge.refused(Edge.FULL, "feed(32, 1)");
        Edge.does("space(0)", 3, "space 0", "tape");
        Edge.asks("many(3)", 0);
        Edge.does("space(0)", -100, "tape");
        Edge.feed("x");
        Edge.does("space(0)", -100, "tape");
        Edge.asks("many(3)", 0);
    }

    private static void good(String text, String lows) {
        int points = lows.isEmpty() ? 0 : lows.split(" ").length;
        Edge.run("points(0, 1)");
        Edge.feed(text);
        Edge.does("space(0)", points, "space 0", "tape");
        Edge.lows(0, lows);
    }

    private static void wrong(String text, int fault) {
        Edge.feed(text);
        Edge.does("space(0)", -100 - fault, "tape");
    }

    private static void texts() {
        Edge.term(5, "TEXT: N { ; ITEM }: so many POINTS (0 to 8);");
        good("0", "");
        good("1", "1");
        good("8", "1 2 4 8 16 32 64 128");
        wrong("9", 0);
        wrong("-1", 0);
        wrong(":", 0);
        wrong("/", 0);
        wrong("8;", 2);
        wrong(";1>0", 0);
        good("2;1>0;1>0", "1 3");

        Edge.term(5, "ITEM: P > P { , P }: each of these is NESTED in the one ahead of >;");
        good("4;3>0", "1 2 4 9");
        good("4;3>0,1,2", "1 2 4 15");
        good("4;3>2,2,2,2", "1 2 4 12");
        good("8;7>6,5,4,3,2,1,0", "1 2 4 8 16 32 64 255");
        wrong("4;3>0,", 6);
        wrong("4;3>,0", 4);
        wrong("4;3,0", 3);
        wrong("4;3>0>1", 5);
        wrong("4;3>0=1", 5);

        Edge.term(5, "or P = P: each is NESTED in the other one.");
        good("3;0=2", "5 2 5");
        good("3;0=2;2=1", "7 7 7");
        good("8;0=7", "129 2 4 8 16 32 64 129");
        wrong("3;0=2,1", 5);
        wrong("3;0=2=1", 5);
        wrong("3;0==2", 4);

        Edge.term(5, "N, P: one digit; P is one of the POINTS, behind > and = another one than ahead of it.");
        wrong("33", 1);
        wrong("3;00>1", 3);
        wrong("3;0>11", 5);
        wrong("3;3>0", 2);
        wrong("3;2>3", 4);
        wrong("8;8>0", 2);
        good("8;7>0", "1 2 4 8 16 32 64 129");
        wrong("0;0>1", 2);
        wrong("0;", 2);
        wrong("1;0>0", 4);
        wrong("3;2>2", 4);
        wrong("3;2=2", 4);
        wrong("3;2=3", 4);
        wrong("3;2>0,2", 6);
        wrong("3;2>0,3", 6);

        Edge.term(5, "Blanks (32) may stand anywhere.");
        good("   3   ", "1 2 4");
        good(" 3 ; 2 > 0 , 1 ; 0 = 1 ", "3 3 7");
        good("3;2  >   0,  1", "1 2 7");
        wrong("3 1", 2);
        // no other sign is a blank
        wrong("3\t", 1);
        wrong("3\n", 1);
        wrong("3\u0000", 1);
        wrong("3\u001f", 1);
        wrong("3!", 1);
        wrong("3\u00a0", 1);
    }

    private static void faults() {
        Edge.term(5, "FAULT: the place (from 0) of the first byte that can't stand there or is not as told, "
            + "or the end (how many bytes there are), if more must come.");
        Edge.text(3, Shapes.VEE);
        // first: nothing at all; blanks alone
        wrong("", 0);
        wrong("    ", 4);
        wrong("x", 0);
        wrong("   x", 3);
        wrong("3x", 1);
        // the end behind each part of an item
        wrong("3;", 2);
        wrong("3;2", 3);
        wrong("3;2>", 4);
        wrong("3;2>0,", 6);
        wrong("3;2=", 4);
        wrong("3;2>0;", 6);
        wrong("3;2>0 ;  ", 9);
        // a sign that can't stand behind each part of an item
        wrong("3;>", 2);
        wrong("3;2;", 3);
        wrong("3;2>;", 4);
        wrong("3;2>0 1", 6);
        wrong("3;2>0,;", 6);
        wrong("3;2=1 x", 6);
        wrong("3;;", 2);
        // what is not as told stands behind what is
        wrong("3;2>0;1>2;0>7x", 12);
        // the last place of all, and the end of a full tape
        wrong("3" + " ".repeat(98) + "x", 99);
        wrong("3" + " ".repeat(98) + ";", 100);
        // bytes above 127 are no digits and no blanks
        wrong("\u00b3", 0);
        wrong("3\u00bb", 1);
        wrong("3;\u00ff", 2);
    }

    private static void draws() {
        Edge.term(5, "DRAWS: z (an int; 1 at first) becomes z * 1103515245 + 12345; z >>> 16 is drawn.");
        Edge.asks("seed(1)", 1);
        for (int z : new int[] {1, 0, -1, MAX, MIN, 65536, -65536}) {
            int once = z * 1103515245 + 12345;
            int twice = once * 1103515245 + 12345;
            Edge.run("seed(" + z + ")");
            // both drawn numbers are from 0 to 65535: none is below 0 by 100, and all are below 100
            Edge.does("draw(0, 2, 0)", 0, "space 0", "z");
            Edge.lows(0, "1 2");
            Edge.asks("seed(" + twice + ")", twice);
            Edge.run("seed(" + z + ")");
            Edge.does("draw(0, 2, 100)", 0, "space 0", "z");
            Edge.lows(0, "3 3");
            int low0 = (once >>> 16) % 100 < 50 ? 3 : 1;
            int low1 = (twice >>> 16) % 100 < 50 ? 3 : 2;
            Edge.run("seed(" + z + ")", "draw(0, 2, 50)");
            Edge.lows(0, low0 + " " + low1);
        }
    }

    private static void rows() {
        Edge.term(5, "SHEETS 0 to 3: rows of 0 bytes, 1 chars, 2 longs, 40 at most, or missing (at first).");
        for (int sheet = 0; sheet < 4; sheet++) {
            Edge.missing(sheet);
        }
        for (int sort = 0; sort < 3; sort++) {
            Edge.does("sheet(3, " + sort + ", 40)", 1, "sheet 3");
            Edge.refused(Edge.BAD, "sheet(3, " + sort + ", 41)");
            Edge.rowDue(3, sort, new int[40]);
        }
        Edge.refused(Edge.BAD, "sheet(4, 0, 1)", "sheet(-1, 0, 1)", "sheet(0, 3, 1)");

        Edge.term(5, "n places of a row from i on are outside if n or i is below 0, or both together are more than it has.");
        Edge.run("sheet(0, 0, 8)", "sheet(1, 0, 40)");
        Edge.does("take(0, 0, 8, 1)", 0, "space 1");
        Edge.does("take(0, 8, 0, 1)", 0, "space 1");
        Edge.does("copy(0, 0, 1, 32, 8)", 8);
        Edge.refused(Edge.OUTSIDE, "take(0, 1, 8, 1)", "take(0, 9, 0, 1)", "take(0, -1, 0, 1)", "take(0, -1, 1, 1)",
            "copy(0, 0, 1, 33, 8)", "copy(0, 0, 1, 0, 9)", "copy(0, 8, 1, 0, 1)", "copy(0, 0, 1, 0, -1)", "copy(0, 0, 1, -1, 1)",
            "copy(0, MAX, 1, 0, MAX)", "copy(0, MAX, 1, 0, 1)", "copy(0, 1, 1, 0, MAX)", "copy(0, MIN, 1, 0, MIN)", "copy(0, MAX, 1, 0, 2)");

        Edge.term(5, "SHELVES 0 to 3 hold the REDUCTION of a KIND, the row that a SHEET had then, or nothing (at first).");
        for (int shelf = 0; shelf < 4; shelf++) {
            Edge.refused(Edge.NOTHING, "taken(" + shelf + ", 0)", "taken(" + shelf + ", 10)");
        }
        Edge.refused(Edge.BAD, "taken(4, 0)", "taken(-1, 0)", "shelf(4, 0, 0)", "shelf(-1, 0, 0)");
        Edge.run("sheet(0, 1, 3)", "shelf(3, 1, 0)");
        Edge.asks("taken(3, 11)", 3);
        // the sheet's next row is another one
        Edge.does("sheet(0, 2, 7)", 1, "sheet 0");
        Edge.asks("taken(3, 11)", 3);
        Edge.does("sheet(0, -1, 0)", 1, "sheet 0");
        Edge.asks("taken(3, 11)", 3);
        Edge.does("shelf(3, 1, 0)", 1, "shelf 3");
        Edge.asks("taken(3, 11)", Edge.NOTHING);
    }

    private static void acts() {
        Edge.term(5, "ACTS of a REDUCTION with x (an int that wraps); k its KIND. 0 goes, 1 pays, 2 tells.");
        Edge.run("shelf(0, 0, 0)", "shelf(1, 0, 5)");
        Edge.does("act(0, 0, MAX)", MAX * 3, "trace");
        Edge.does("act(0, 0, MIN)", MIN * 3, "trace");
        Edge.does("act(0, 1, MIN)", MIN * 3 - 2, "trace");
        Edge.does("act(0, 2, MAX)", MAX * 3 - 2, "trace");
        Edge.does("act(1, 0, MAX)", (MAX * 3 + 5) ^ 12, "trace");
        Edge.does("act(0, 3, 1)", 0, "trace");
        Edge.does("act(0, -1, 1)", 0, "trace");

        Edge.term(5, "THE TRACE: numbers of the bodies that ran in the latest act(), as they began; the first 30 are kept.");
        Edge.trace();
        Edge.run("shelf(0, 0, 5)", "act(0, 1, 3)");
        // strict's pays begins, then up's, then like's, then goes of strict and like; then goes(2)
        Edge.trace(61, 30, 11, 60, 10, 60, 10);
        Edge.run("act(0, 0, 3)");
        Edge.trace(60, 10);
        // the longest of all is far from 30
        Edge.run("shelf(0, 0, 4)", "act(0, 2, 3)");
        Edge.trace(51, 40, 12, 11, 50, 20, 10, 50, 20, 10, 11, 50, 20, 10);
        Edge.refused(Edge.NONE, "trace(29)", "trace(30)");
    }

    /** One act of one kind: what it answers, and which bodies ran. */
    private static void body(int kind, int act, int x, int want, int... bodies) {
        Edge.run("shelf(0, 0, " + kind + ")");
        Edge.does("act(0, " + act + ", " + x + ")", want, "trace");
        Edge.trace(bodies);
    }

    private static void bodies() {
        Edge.term(5, "BODIES: like: 10 goes: x * 3 + k. 11 pays: goes(x) - 2. 12 tells: pays(x) ^ goes(k).");
        body(0, 0, 5, 15, 10);
        body(0, 1, 5, 13, 11, 10);
        body(0, 2, 5, 13 ^ 0, 12, 11, 10, 10);
        // k is the kind that acts, not that of the body
        body(2, 0, 5, 17, 10);

        Edge.term(5, "down: 20 goes: super.goes(x) * 2. up: 30 pays: super.pays(x) + 7. 31 tells: 0 - super.tells(x).");
        body(1, 0, 5, 32, 20, 10);
        body(1, 0, 1 << 30, (3 * (1 << 30) + 1) * 2, 20, 10);
        body(2, 1, 5, 22, 30, 11, 10);
        body(2, 2, 5, 0 - (22 ^ 8), 31, 12, 30, 11, 10, 10);

        Edge.term(5, "beat: 40 tells: super.tells(x + 1). weak: 50 goes: super.goes(x) - 5. 51 tells: super.tells(x) + pays(1).");
        body(3, 2, 5, ((6 * 3 + 3) * 2 - 2) ^ ((3 * 3 + 3) * 2), 40, 12, 11, 20, 10, 20, 10);
        body(3, 2, MAX, ((MIN * 3 + 3) * 2 - 2) ^ ((3 * 3 + 3) * 2), 40, 12, 11, 20, 10, 20, 10);
        body(4, 0, 5, (5 * 3 + 4) * 2 - 5, 50, 20, 10);
        body(4, 2, 5, (((6 * 3 + 4) * 2 - 5 - 2) ^ ((4 * 3 + 4) * 2 - 5)) + (3 + 4) * 2 - 5 - 2,
            51, 40, 12, 11, 50, 20, 10, 50, 20, 10, 11, 50, 20, 10);

        Edge.term(5, "strict: 60 goes: super.goes(x) ^ 12. 61 pays: super.pays(x) - goes(2).");
        body(5, 0, 5, 20 ^ 12, 60, 10);
        body(5, 1, 5, (20 ^ 12) - 2 + 7 - (11 ^ 12), 61, 30, 11, 60, 10, 60, 10);

        Edge.term(5, "goes(..) and so on: the body of its own KIND, or of the next KIND above that has one; "
            + "super: from the KIND above the body's on; all from the left on.");
        // beat has no goes: down's runs; strict's tells is up's, and its super is like's, which calls strict's pays and goes
        body(3, 0, 5, 36, 20, 10);
        body(5, 2, 5, 0 - (((20 ^ 12) - 2 + 7 - (11 ^ 12)) ^ (20 ^ 12)), 31, 12, 61, 30, 11, 60, 10, 60, 10, 60, 10);
        body(1, 2, 5, (16 * 2 - 2) ^ (4 * 2), 12, 11, 20, 10, 20, 10);
    }
}
