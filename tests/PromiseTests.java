/** Each promise by hand: ordinary inputs, the edges that the document names, each refusal in its order. */
public final class PromiseTests {
    private static final int BAD = -1, FULL = -2, NONE = -3;
    private static final int NOTHING = -11, OUTSIDE = -12, OTHER_SORT = -13, BELOW_NONE = -14;
    private static final int MIN = Integer.MIN_VALUE, MAX = Integer.MAX_VALUE;
    private static final int[] NO_SPACES = {-1, 6, MIN, MAX};

    private static final String CIRCLE = "4;2>0,1;3>0,1";
    private static final String CHAIN3 = "3;1>0;2>1";
    private static final String VEE = "3;1>0;2>0";

    public static void main(String[] args) {
        promises1To7();
        reductions();
        sameness();
        mapping();
        complexes();
        making();
        texts();
        drawing();
        sheetRows();
        rowsOfSets();
        shelvesAndActs();
        keeping();
        Check.end("PromiseTests");
    }

    private static void due(String what, long got, long want) {
        Check.due(what, got, want);
    }

    private static void promises1To7() {
        newObject();
        pointsAndNest();
        ofAPoint();
        aboutSets();
        toldOfSpaces();
        paths();
    }

    private static void newObject() {
        NestedPoints x = new NestedPoints();
        for (int s = 0; s < 6; s++) {
            due("1 new told(" + s + ", 0)", x.told(s, 0), 0);
        }
        due("1 many(0)", x.many(0), 0);
        due("1 many(1)", x.many(1), 0);
        due("1 many(2)", x.many(2), 63);
        due("1 many(3)", x.many(3), 0);
        due("1 many(4)", x.many(4), 0);
        due("1 trace(0)", x.trace(0), NONE);
        due("1 again()", x.again(), NONE);
        due("1 taken(0, 0)", x.taken(0, 0), NOTHING);
        due("1 item(3, 2, 0)", x.item(3, 2, 0), NOTHING);
        due("1 seed(7)", x.seed(7), 1);
        due("1 BAD", NestedPoints.BAD, -1);
        due("1 FULL", NestedPoints.FULL, -2);
        due("1 NONE", NestedPoints.NONE, -3);
    }

    private static void pointsAndNest() {
        NestedPoints x = new NestedPoints();
        due("2 points(0, 8)", x.points(0, 8), 0);
        due("2 points(0, 3)", x.points(0, 3), 8);
        due("3 nest(0, 1, 0)", x.nest(0, 1, 0), 1);
        due("3 nest(0, 1, 0) once more", x.nest(0, 1, 0), 0);
        due("3 nest(0, 1, 1)", x.nest(0, 1, 1), 0);
        due("3 nest(0, 2, 1): 1 and 0 come below 2", x.nest(0, 2, 1), 2);
        Check.lowsDue("3 chain", x, 0, "1 3 7");
        due("3 nest(0, 0, 2): all alike", x.nest(0, 0, 2), 3);
        Check.lowsDue("3 alike", x, 0, "7 7 7");
        due("2 points(0, 3) anew", x.points(0, 3), 3);
        Check.lowsDue("2 none below another one", x, 0, "1 2 4");
        x.points(5, 4);
        x.nest(5, 1, 0);
        x.nest(5, 3, 2);
        due("3 nest(5, 2, 1): {0, 1} comes into 2 and 3", x.nest(5, 2, 1), 4);
        Check.lowsDue("3 low of all above", x, 5, "1 3 7 15");
        for (int s : NO_SPACES) {
            due("2 points(" + s + ", 1)", x.points(s, 1), BAD);
            due("3 nest(" + s + ", 0, 0)", x.nest(s, 0, 0), BAD);
        }
        due("2 points(0, 9)", x.points(0, 9), BAD);
        due("2 points(0, -1)", x.points(0, -1), BAD);
        due("2 told after", x.told(0, 0), 3);
        due("3 nest(0, 3, 0)", x.nest(0, 3, 0), BAD);
        due("3 nest(0, 0, 3)", x.nest(0, 0, 3), BAD);
        due("3 nest(0, -1, 0)", x.nest(0, -1, 0), BAD);
        due("3 nest(0, 0, -1)", x.nest(0, 0, -1), BAD);
        due("3 nest(1, 0, 0): no points", x.nest(1, 0, 0), BAD);
        Check.lowsDue("3 nothing changed", x, 0, "1 2 4");
        due("2 points(0, 0)", x.points(0, 0), 3);
        due("2 told", x.told(0, 0), 0);
    }

    private static void ofAPoint() {
        NestedPoints x = new NestedPoints();
        // 0 below 1 below 2; 3 alike to 1; 4 below 5; 6 alone
        Check.tell(x, 2, "7;1>0;1=3;2>1;5>4");
        int[][] due = {
            {1, 15, 0, 1, 15}, {11, 14, 1, 10, 15}, {15, 4, 2, 4, 15}, {11, 14, 1, 10, 15},
            {16, 48, 0, 16, 48}, {48, 32, 1, 32, 48}, {64, 64, 0, 64, 64}};
        for (int p = 0; p < 7; p++) {
            for (int what = 0; what < 5; what++) {
                due("4 of(2, " + p + ", " + what + ")", x.of(2, p, what), due[p][what]);
            }
        }
        // 0: up beat (1 and 3 have all above it); 2: down beat; 1 and 3 are alike, so no beats, but go by like
        int[] beats = {6, 4, 5, 4, 6, 5, 0};
        for (int p = 0; p < 7; p++) {
            due("4 of(2, " + p + ", 5)", x.of(2, p, 5), beats[p]);
        }
        // a point in the middle of a chain is both
        Check.tell(x, 3, CHAIN3);
        due("4 of(3, 1, 5)", x.of(3, 1, 5), 7);
        // a cone over a 4-point fence: the fence below shrinks though the top is no beat
        Check.tell(x, 4, "5;1>0,2;3>2;4>0,1,2,3");
        due("4 of(4, 4, 5): weak alone", x.of(4, 4, 5), 4);
        due("4 of(2, 7, 0)", x.of(2, 7, 0), BAD);
        due("4 of(2, -1, 0)", x.of(2, -1, 0), BAD);
        due("4 of(2, 0, 6)", x.of(2, 0, 6), BAD);
        due("4 of(2, 0, -1)", x.of(2, 0, -1), BAD);
        for (int s : NO_SPACES) {
            due("4 of(" + s + ", 0, 0)", x.of(s, 0, 0), BAD);
        }
    }

    private static void aboutSets() {
        NestedPoints x = new NestedPoints();
        Check.tell(x, 0, CIRCLE);
        due("5 inside of {0, 2}", x.about(0, 5, 0), 1);
        due("5 closure of {0}", x.about(0, 1, 1), 13);
        due("5 edge of {0, 2}", x.about(0, 5, 2), 12);
        due("5 {0, 2} is neither", x.about(0, 5, 3), 0);
        due("5 {0} is open", x.about(0, 1, 3), 1);
        due("5 {2} is closed", x.about(0, 4, 3), 2);
        due("5 {} is both", x.about(0, 0, 3), 3);
        due("5 all is both", x.about(0, 15, 3), 3);
        due("5 inside of {}", x.about(0, 0, 0), 0);
        due("5 closure of {}", x.about(0, 0, 1), 0);
        due("5 of no points", x.about(1, 0, 3), 3);
        due("5 about(1, 1, 0)", x.about(1, 1, 0), BAD);
        due("5 about(0, 16, 0)", x.about(0, 16, 0), BAD);
        due("5 about(0, -1, 0)", x.about(0, -1, 0), BAD);
        due("5 about(0, 1, 4)", x.about(0, 1, 4), BAD);
        due("5 about(0, 1, -1)", x.about(0, 1, -1), BAD);
        for (int s : NO_SPACES) {
            due("5 about(" + s + ", 0, 0)", x.about(s, 0, 0), BAD);
        }
    }

    private static void toldOfSpaces() {
        NestedPoints x = new NestedPoints();
        Check.tell(x, 0, "8;1>0;2>1;2=3;5>4");
        // strictly: 0<1, 0<2, 0<3, 1<2, 1<3, 4<5
        // open: of the chain 0<1<{2,3} 4, of 4<5 3, of 6 and 7 2 each: 4 * 3 * 2 * 2
        int[] due = {8, 6, 4, 4, 2, 48, 0};
        for (int what = 0; what < 7; what++) {
            due("6 told(0, " + what + ")", x.told(0, what), due[what]);
        }
        due("6 told(1, 4): no points", x.told(1, 4), NONE);
        due("6 told(1, 5)", x.told(1, 5), 1);
        due("6 told(1, 6)", x.told(1, 6), 1);
        x.points(2, 8);
        due("6 256 open sets", x.told(2, 5), 256);
        due("6 8 parts", x.told(2, 3), 8);
        due("6 height 0", x.told(2, 4), 0);
        Check.tell(x, 3, "2;0=1");
        due("6 alike: no strict pairs", x.told(3, 1), 0);
        due("6 alike: height 0", x.told(3, 4), 0);
        due("6 alike: one part", x.told(3, 3), 1);
        due("6 alike: open sets", x.told(3, 5), 2);
        due("6 told(0, 7)", x.told(0, 7), BAD);
        due("6 told(0, -1)", x.told(0, -1), BAD);
        for (int s : NO_SPACES) {
            due("6 told(" + s + ", 0)", x.told(s, 0), BAD);
        }
    }

    private static void paths() {
        NestedPoints x = new NestedPoints();
        Check.tell(x, 0, "8;1>0;1>2;3>2;3>4;5>4;5>6");
        for (int y = 0; y < 7; y++) {
            due("7 path(0, 0, " + y + ")", x.path(0, 0, y), y);
            due("7 path(0, " + y + ", 0)", x.path(0, y, 0), y);
        }
        due("7 path to another part", x.path(0, 0, 7), NONE);
        Check.tell(x, 1, "3;0=1;2>1");
        due("7 path of alike ones", x.path(1, 0, 1), 1);
        due("7 path of far ones of a chain", x.path(1, 2, 0), 1);
        due("7 path(0, 8, 0)", x.path(0, 8, 0), BAD);
        due("7 path(0, 0, 8)", x.path(0, 0, 8), BAD);
        due("7 path(0, -1, 0)", x.path(0, -1, 0), BAD);
        due("7 path(0, 0, -1)", x.path(0, 0, -1), BAD);
        for (int s : NO_SPACES) {
            due("7 path(" + s + ", 0, 0)", x.path(s, 0, 0), BAD);
        }
    }

    private static void reductions() {
        mayAndPrice();
        leftAndReduce();
        waysOfGoing();
        retracts();
        homotopy();
    }

    private static void mayAndPrice() {
        NestedPoints x = new NestedPoints();
        // 0 < 1 < 3, 0 < 2 < 3, 4 alike to 3
        Check.tell(x, 0, "5;1>0;2>0;3>1,2;3=4");
        // like: 3, 4. down: 1 and 2, too, with 0 alone below them. up: 1 and 2, as 3 has all above them above it (4 is
        // alike to it); 0 not. strict: as up, as all of them have 0 below. weak: those above 0 shrink
        int[] all = {24, 30, 30, 30, 31, 30};
        for (int kind = 0; kind < 6; kind++) {
            due("8 may(0, " + kind + ", 31)", x.may(0, kind, 31), all[kind]);
        }
        // within {0, 1, 2, 3} 3 has no twin, and 1 and 2 beneath it are not one below the other
        int[] four = {0, 6, 6, 6, 15, 6};
        for (int kind = 0; kind < 6; kind++) {
            due("8 may(0, " + kind + ", 15)", x.may(0, kind, 15), four[kind]);
        }
        // below 3 within {0, 1, 2, 3} are 0, 1, 2: they shrink
        due("8 may(0, 3, 0)", x.may(0, 3, 0), 0);
        due("8 may(0, 4, 4)", x.may(0, 4, 4), 0);
        int[][] prices = {{1, 1, 5, 1, 3, 4}, {1, 2, 3, 2, 5, 2}, {1, 2, 3, 2, 5, 2}, {1, 4, 1, 4, 9, 0}, {1, 4, 1, 4, 9, 0}};
        for (int p = 0; p < 5; p++) {
            for (int kind = 0; kind < 6; kind++) {
                due("9 price(0, " + kind + ", " + p + ")", x.price(0, kind, p), prices[p][kind]);
            }
        }
        due("8 may(0, 6, 0)", x.may(0, 6, 0), BAD);
        due("8 may(0, -1, 0)", x.may(0, -1, 0), BAD);
        due("8 may(0, 0, 32)", x.may(0, 0, 32), BAD);
        due("8 may(0, 0, -1)", x.may(0, 0, -1), BAD);
        due("9 price(0, 6, 0)", x.price(0, 6, 0), BAD);
        due("9 price(0, -1, 0)", x.price(0, -1, 0), BAD);
        due("9 price(0, 0, 5)", x.price(0, 0, 5), BAD);
        due("9 price(0, 0, -1)", x.price(0, 0, -1), BAD);
        for (int s : NO_SPACES) {
            due("8 may(" + s + ", 0, 0)", x.may(s, 0, 0), BAD);
            due("9 price(" + s + ", 0, 0)", x.price(s, 0, 0), BAD);
        }
    }

    private static void leftAndReduce() {
        NestedPoints x = new NestedPoints();
        Check.tell(x, 0, CHAIN3);
        // down: 1 and 2 may go, 0 stays; up: 0 and 1, 2 stays; beat: any
        int[][] due = {{7, 7, 7, 7}, {1, 1, 1, 1}, {4, 4, 4, 4}, {4, 1, 4, 1}, {4, 1, 4, 1}, {5, 5, 5, 5}};
        // beat, order 2: price 1 + how many below: 0 goes first, then 1 (now the lowest)
        // strict: 1 alone (0 has none below, 2 none above): 0 and 2 stay
        for (int kind = 0; kind < 6; kind++) {
            for (int order = 0; order < 4; order++) {
                due("10 left(0, " + kind + ", " + order + ")", x.left(0, kind, order), due[kind][order]);
            }
        }
        Check.tell(x, 1, "4;0=1;1=2");
        due("10 like, least first", x.left(1, 0, 0), 12);
        due("10 like, greatest first", x.left(1, 0, 1), 9);
        due("10 like, equal prices", x.left(1, 0, 2), 12);
        due("10 like, equal prices", x.left(1, 0, 3), 12);
        due("11 reduce(1, 0, 1, 2)", x.reduce(1, 0, 1, 2), 2);
        Check.lowsDue("11 numbered anew", x, 2, "1 2");
        // 0 = 3 < 4 < 2, 1 alone: by like, order 0, 1 2 3 4 are left, in order: 1, 2, 3, 4 become 0, 1, 2, 3
        Check.tell(x, 3, "5;0=3;4>3;2>4");
        due("11 reduce(3, 0, 0, 3): that one, too", x.reduce(3, 0, 0, 3), 4);
        Check.lowsDue("11 in order", x, 3, "1 14 4 12");
        due("10 of none", x.left(5, 4, 0), 0);
        due("11 of none", x.reduce(5, 4, 0, 3), 0);
        due("11 of none", x.told(3, 0), 0);
        due("10 left(0, 6, 0)", x.left(0, 6, 0), BAD);
        due("10 left(0, -1, 0)", x.left(0, -1, 0), BAD);
        due("10 left(0, 0, 4)", x.left(0, 0, 4), BAD);
        due("10 left(0, 0, -1)", x.left(0, 0, -1), BAD);
        due("11 reduce(0, 6, 0, 1)", x.reduce(0, 6, 0, 1), BAD);
        due("11 reduce(0, -1, 0, 1)", x.reduce(0, -1, 0, 1), BAD);
        due("11 reduce(0, 0, 4, 1)", x.reduce(0, 0, 4, 1), BAD);
        due("11 reduce(0, 0, -1, 1)", x.reduce(0, 0, -1, 1), BAD);
        for (int s : NO_SPACES) {
            due("10 left(" + s + ", 0, 0)", x.left(s, 0, 0), BAD);
            due("11 reduce(" + s + ", 0, 0, 0)", x.reduce(s, 0, 0, 0), BAD);
            due("11 reduce(0, 0, 0, " + s + ")", x.reduce(0, 0, 0, s), BAD);
        }
    }

    private static void waysOfGoing() {
        NestedPoints x = new NestedPoints();
        Check.tell(x, 0, CHAIN3);
        int[][] due = {{1, 1, 7, 1}, {2, 1, 1, 1}, {2, 1, 4, 1}, {6, 3, 1, 1}, {6, 3, 1, 1}, {1, 1, 5, 1}};
        for (int kind = 0; kind < 6; kind++) {
            for (int what = 0; what < 4; what++) {
                due("12 ways(0, " + kind + ", " + what + ")", x.ways(0, kind, what), due[kind][what]);
            }
        }
        Check.tell(x, 1, "3;0=1;1=2");
        due("12 like: rows", x.ways(1, 0, 0), 6);
        due("12 like: ends", x.ways(1, 0, 1), 3);
        due("12 like: the least end", x.ways(1, 0, 2), 1);
        due("12 like: ends unlike as spaces", x.ways(1, 0, 3), 1);
        // strict: a 3-point class with 3 below all: two go, then the last goes only if it is an up beat: it has none above
        Check.tell(x, 2, "4;0=1;1=2;0>3");
        due("12 strict: rows", x.ways(2, 5, 0), 6);
        due("12 strict: ends", x.ways(2, 5, 1), 3);
        due("12 strict: the least end", x.ways(2, 5, 2), 9);
        Check.tell(x, 3, CIRCLE);
        due("12 nothing goes: one row", x.ways(3, 4, 0), 1);
        due("12 nothing goes: one end", x.ways(3, 4, 2), 15);
        due("12 ways(0, 6, 0)", x.ways(0, 6, 0), BAD);
        due("12 ways(0, -1, 0)", x.ways(0, -1, 0), BAD);
        due("12 ways(0, 0, 4)", x.ways(0, 0, 4), BAD);
        due("12 ways(0, 0, -1)", x.ways(0, 0, -1), BAD);
        for (int s : NO_SPACES) {
            due("12 ways(" + s + ", 0, 0)", x.ways(s, 0, 0), BAD);
        }
    }

    private static void retracts() {
        NestedPoints x = new NestedPoints();
        Check.tell(x, 0, CHAIN3);
        due("13 chain: 0 upon 1, 1 upon 2", x.retract(0), Check.map(2, 2, 2));
        Check.tell(x, 0, CIRCLE);
        due("13 circle: each stays", x.retract(0), Check.map(0, 1, 2, 3));
        // twins go upon the least that is left: 0 upon 1, 1 upon 2
        Check.tell(x, 0, "4;0=1;1=2");
        due("13 twins", x.retract(0), Check.map(2, 2, 2, 3));
        // 0 is a down beat and an up beat: down first; upon 3, the least of the top ones below it
        Check.tell(x, 0, "5;0>3;3=4;2>0");
        due("13 down ahead of up", x.retract(0), Check.map(4, 1, 4, 4, 4));
        // vee: 0 below 1 and 2 is no beat; 1 goes upon 0, then 0 upon 2
        Check.tell(x, 0, VEE);
        due("13 vee", x.retract(0), Check.map(2, 2, 2));
        due("13 of none", x.retract(1), 0);
        Check.tell(x, 0, "8");
        due("13 eight apart", x.retract(0), Check.map(0, 1, 2, 3, 4, 5, 6, 7));
        for (int s : NO_SPACES) {
            due("13 retract(" + s + ")", x.retract(s), BAD);
        }
    }

    private static void homotopy() {
        NestedPoints x = new NestedPoints();
        Check.tell(x, 0, CIRCLE);
        Check.tell(x, 1, "8;3>0,5;4>0,5;1=0;2=4;6>3;7>4");
        due("14 a circle with more", x.homotopic(0, 1), 1);
        Check.tell(x, 2, CHAIN3);
        Check.tell(x, 3, "1");
        due("14 a chain and a point", x.homotopic(2, 3), 1);
        due("14 a circle and a point", x.homotopic(0, 3), 0);
        due("14 none and a point", x.homotopic(4, 3), 0);
        due("14 none and none", x.homotopic(4, 5), 1);
        Check.tell(x, 4, "2");
        due("14 two points and one", x.homotopic(4, 3), 0);
        // a circle of six is no less than a core, and another one than that of four
        Check.tell(x, 5, "6;3>0,1;4>1,2;5>2,0");
        due("14 two circles", x.homotopic(5, 0), 0);
        for (int s : NO_SPACES) {
            due("14 homotopic(" + s + ", 0)", x.homotopic(s, 0), BAD);
            due("14 homotopic(0, " + s + ")", x.homotopic(0, s), BAD);
        }
    }

    private static void sameness() {
        renumberings();
        codesAndForms();
        lists();
    }

    private static void renumberings() {
        NestedPoints x = new NestedPoints();
        Check.tell(x, 0, VEE);
        Check.tell(x, 1, "3;0>1;2>1");
        due("15 how many", x.same(0, 1, -1), 2);
        due("15 image of 0", x.same(0, 1, 0), 1);
        due("15 image of 1", x.same(0, 1, 1), 0);
        due("15 image of 2", x.same(0, 1, 2), 2);
        Check.tell(x, 2, CHAIN3);
        due("15 not the same", x.same(0, 2, -1), 0);
        due("15 not the same", x.same(0, 2, 0), NONE);
        x.points(3, 2);
        due("15 fewer points", x.same(0, 3, -1), 0);
        due("15 fewer points", x.same(0, 3, 2), NONE);
        due("15 i is a point of the other one alone", x.same(3, 0, 2), BAD);
        x.points(4, 8);
        due("15 eight apart", x.same(4, 4, -1), 40320);
        due("15 eight apart, the first", x.same(4, 4, 7), 7);
        due("15 none and none", x.same(5, 5, -1), 1);
        due("15 same(5, 5, 0)", x.same(5, 5, 0), BAD);
        due("15 same(0, 0, 3)", x.same(0, 0, 3), BAD);
        due("15 same(0, 0, -2)", x.same(0, 0, -2), BAD);
        for (int s : NO_SPACES) {
            due("15 same(" + s + ", 0, -1)", x.same(s, 0, -1), BAD);
            due("15 same(0, " + s + ", -1)", x.same(0, s, -1), BAD);
        }
    }

    private static void codesAndForms() {
        NestedPoints x = new NestedPoints();
        // pairs (0,1) (0,2) (1,0) (1,2) (2,0) (2,1): bits 0 to 5
        due("17 byCode(0, 3, 20)", x.byCode(0, 3, 4 + 16), 0);
        Check.lowsDue("17 vee", x, 0, "1 3 5");
        // least with 2 as the one below both others: bits (0,2) and (1,2)
        due("16 form of a vee", x.form(0), 2 + 8);
        Check.tell(x, 1, "3;0>1,2");
        due("16 form of a wedge", x.form(1), 3);
        Check.tell(x, 1, "3;2>1;1>0");
        // a chain: 1 is in two's place: 0 above 1: bit 0 (0,1); then 2 below or above both
        due("16 form of a chain", x.form(1), 1 + 2 + 8);
        Check.tell(x, 1, "2;0=1");
        due("16 form of twins", x.form(1), 3);
        x.points(1, 5);
        due("16 form of five apart", x.form(1), 0);
        due("16 form of none", x.form(2), 0);
        due("17 byCode(1, 5, all)", x.byCode(1, 5, (1 << 20) - 1), 5);
        due("16 form of five alike", x.form(1), (1 << 20) - 1);
        due("17 byCode(1, 0, 0)", x.byCode(1, 0, 0), 5);
        due("17 byCode(1, 1, 0)", x.byCode(1, 1, 0), 0);
        due("17 byCode(1, 1, 1)", x.byCode(1, 1, 1), BAD);
        due("17 byCode(1, 0, 1)", x.byCode(1, 0, 1), BAD);
        due("17 byCode(1, 2, 4)", x.byCode(1, 2, 4), BAD);
        due("17 byCode(1, 5, 2^20)", x.byCode(1, 5, 1 << 20), BAD);
        due("17 byCode(1, 3, 9): not nested", x.byCode(1, 3, 9), BAD);
        due("17 byCode(1, 3, -1)", x.byCode(1, 3, -1), BAD);
        due("17 byCode(1, 5, MIN)", x.byCode(1, 5, MIN), BAD);
        due("17 byCode(1, 6, 0)", x.byCode(1, 6, 0), BAD);
        due("17 byCode(1, -1, 0)", x.byCode(1, -1, 0), BAD);
        due("17 nothing changed", x.told(1, 0), 1);
        x.points(1, 6);
        due("16 form of six points", x.form(1), BAD);
        for (int s : NO_SPACES) {
            due("16 form(" + s + ")", x.form(s), BAD);
            due("17 byCode(" + s + ", 0, 0)", x.byCode(s, 0, 0), BAD);
        }
    }

    private static void lists() {
        NestedPoints x = new NestedPoints();
        // how many orders of n points there are is known: all, plain, all and plain up to sameness
        int[][] due = {{1, 1, 1, 1}, {1, 1, 1, 1}, {4, 3, 3, 2}, {29, 19, 9, 5}, {355, 219, 33, 16}};
        for (int n = 4; n >= 0; n--) {
            for (int what = 0; what < 4; what++) {
                due("18 list(" + n + ", " + what + ")", x.list(n, what), due[n][what]);
            }
        }
        for (int n = 0; n <= 4; n++) {
            for (int plain = 0; plain < 2; plain++) {
                int sum = 0;
                int last = -1;
                for (int i = 0; i < due[n][2 + plain]; i++) {
                    int code = x.listed(n, plain, i, 0);
                    due("19 the lesser first", code > last ? 1 : 0, 1);
                    last = code;
                    sum += x.listed(n, plain, i, 1);
                }
                due("19 all codes of " + n, sum, due[n][plain]);
                due("19 no more", x.listed(n, plain, due[n][2 + plain], 0), NONE);
                due("19 no more", x.listed(n, plain, MAX, 1), NONE);
            }
        }
        x = new NestedPoints();
        due("19 twins", x.listed(2, 0, 2, 0), 3);
        due("19 the chain", x.listed(2, 1, 1, 0), 1);
        due("19 its codes", x.listed(2, 1, 1, 1), 2);
        due("18 list(5, 0)", x.list(5, 0), BAD);
        due("18 list(-1, 0)", x.list(-1, 0), BAD);
        due("18 list(4, 4)", x.list(4, 4), BAD);
        due("18 list(4, -1)", x.list(4, -1), BAD);
        due("19 listed(5, 0, 0, 0)", x.listed(5, 0, 0, 0), BAD);
        due("19 listed(-1, 0, 0, 0)", x.listed(-1, 0, 0, 0), BAD);
        due("19 listed(4, 2, 0, 0)", x.listed(4, 2, 0, 0), BAD);
        due("19 listed(4, -1, 0, 0)", x.listed(4, -1, 0, 0), BAD);
        due("19 listed(4, 0, -1, 0)", x.listed(4, 0, -1, 0), BAD);
        due("19 listed(4, 0, 0, 2)", x.listed(4, 0, 0, 2), BAD);
        due("19 listed(4, 0, 99, -1): BAD ahead of NONE", x.listed(4, 0, 99, -1), BAD);
    }

    private static void mapping() {
        tearing();
        countingMaps();
        fences();
        fixedPoints();
    }

    private static void tearing() {
        NestedPoints x = new NestedPoints();
        Check.tell(x, 0, VEE);
        Check.tell(x, 1, "2;1>0");
        due("20 tears nothing", x.tears(0, 1, Check.map(0, 1, 1)), 0);
        due("20 1 over 0 is torn first", x.tears(0, 1, Check.map(1, 0, 0)), 1 + 8 * 1 + 0);
        due("20 2 over 0 is torn", x.tears(0, 1, Check.map(1, 1, 0)), 1 + 8 * 2 + 0);
        Check.tell(x, 2, "3;0=2");
        due("20 of twins the first x", x.tears(2, 1, Check.map(0, 0, 1)), 1 + 8 * 0 + 2);
        due("20 of twins the other one", x.tears(2, 1, Check.map(1, 0, 0)), 1 + 8 * 2 + 0);
        due("20 of none", x.tears(5, 1, 0), 0);
        due("20 of none to none", x.tears(5, 5, 0), 0);
        due("20 to none", x.tears(1, 5, 0), BAD);
        due("20 more digits", x.tears(5, 1, 1), BAD);
        due("20 more digits", x.tears(0, 1, 512), BAD);
        due("20 no point", x.tears(0, 1, Check.map(0, 2, 0)), BAD);
        due("20 below 0", x.tears(0, 1, -1), BAD);
        due("20 below 0", x.tears(0, 1, MIN), BAD);
        x.points(3, 8);
        due("20 eight digits", x.tears(3, 3, (1 << 24) - 1), 0);
        due("20 nine digits", x.tears(3, 3, 1 << 24), BAD);
        for (int s : NO_SPACES) {
            due("20 tears(" + s + ", 0, 0)", x.tears(s, 0, 0), BAD);
            due("20 tears(0, " + s + ", 0)", x.tears(0, s, 0), BAD);
        }
    }

    private static void countingMaps() {
        NestedPoints x = new NestedPoints();
        Check.tell(x, 0, CHAIN3);
        Check.tell(x, 1, "2;1>0");
        due("21 chain of 3 to chain of 2", x.maps(0, 1), 4);
        due("21 chain of 2 to chain of 3", x.maps(1, 0), 6);
        x.points(2, 5);
        x.points(3, 8);
        due("21 five apart to eight", x.maps(2, 3), 32768);
        due("21 none to none", x.maps(4, 5), 1);
        due("21 none to some", x.maps(4, 3), 1);
        due("21 some to none", x.maps(1, 4), 0);
        Check.tell(x, 4, "2;0=1");
        due("21 twins to apart", x.maps(4, 3), 8);
        due("21 twins to twins", x.maps(4, 4), 4);
        x.points(2, 6);
        due("21 six points", x.maps(2, 1), BAD);
        for (int s : NO_SPACES) {
            due("21 maps(" + s + ", 0)", x.maps(s, 0), BAD);
            due("21 maps(0, " + s + ")", x.maps(0, s), BAD);
        }
    }

    private static void fences() {
        NestedPoints x = new NestedPoints();
        Check.tell(x, 0, "1");
        Check.tell(x, 1, "8;1>0;1>2;3>2;3>4;5>4;5>6");
        for (int y = 0; y < 7; y++) {
            due("22 from point to point", x.fence(0, 1, 0, y), y);
        }
        due("22 to another part", x.fence(0, 1, 0, 7), NONE);
        // two points apart, moved each its own way: 0 to 1 goes up, 1 to 0 goes down: two steps, not one
        Check.tell(x, 2, "2");
        Check.tell(x, 3, "2;1>0");
        due("22 below at all or above at all", x.fence(2, 3, Check.map(0, 1), Check.map(1, 0)), 2);
        due("22 one step", x.fence(2, 3, Check.map(0, 0), Check.map(1, 1)), 1);
        due("22 they are one", x.fence(2, 3, Check.map(0, 1), Check.map(0, 1)), 0);
        due("22 of none", x.fence(5, 3, 0, 0), 0);
        due("22 of none to none", x.fence(5, 5, 0, 0), 0);
        due("22 to none", x.fence(0, 5, 0, 0), BAD);
        due("22 the first tears", x.fence(3, 3, Check.map(1, 0), 0), BAD);
        due("22 the second tears", x.fence(3, 3, 0, Check.map(1, 0)), BAD);
        due("22 no point", x.fence(3, 3, Check.map(0, 2), 0), BAD);
        due("22 no point", x.fence(3, 3, 0, Check.map(2, 0)), BAD);
        due("22 more digits", x.fence(3, 3, 64, 0), BAD);
        due("22 below 0", x.fence(3, 3, 0, -1), BAD);
        Check.tell(x, 4, CIRCLE);
        due("22 four points", x.fence(4, 4, 0, 0), BAD);
        for (int s : NO_SPACES) {
            due("22 fence(" + s + ", 0, 0, 0)", x.fence(s, 0, 0, 0), BAD);
            due("22 fence(0, " + s + ", 0, 0)", x.fence(0, s, 0, 0), BAD);
        }
    }

    private static void fixedPoints() {
        NestedPoints x = new NestedPoints();
        Check.tell(x, 0, VEE);
        due("23 all", x.fixed(0, Check.map(0, 1, 2)), 7);
        due("23 one", x.fixed(0, Check.map(0, 2, 1)), 1);
        due("23 the others gone", x.fixed(0, Check.map(1, 1, 1)), 2);
        Check.tell(x, 1, "2");
        due("23 none", x.fixed(1, Check.map(1, 0)), 0);
        due("23 of none", x.fixed(2, 0), 0);
        due("23 tears", x.fixed(0, Check.map(1, 0, 0)), BAD);
        due("23 no point", x.fixed(0, Check.map(3, 0, 0)), BAD);
        due("23 more digits", x.fixed(0, 512), BAD);
        due("23 below 0", x.fixed(0, -1), BAD);
        due("23 of none, more digits", x.fixed(2, 1), BAD);
        for (int s : NO_SPACES) {
            due("23 fixed(" + s + ", 0)", x.fixed(s, 0), BAD);
        }
    }

    private static void complexes() {
        chainsAndHoles();
        dividing();
        facets();
    }

    private static void chainsAndHoles() {
        NestedPoints x = new NestedPoints();
        Check.tell(x, 0, "8;1>0;2>1;3>2;4>3;5>4;6>5;7>6");
        int[] eight = {8, 28, 56, 70, 56, 28, 8, 1};
        for (int k = 1; k <= 8; k++) {
            due("24 chains(0, " + k + ")", x.chains(0, k), eight[k - 1]);
        }
        due("25 euler(0)", x.euler(0), 1001);
        due("26 eight points", x.holes(0, 0), BAD);
        // twins count once: 0 = 3 and 1 = 4 make a circle with 2 and 5 as if there were four points
        Check.tell(x, 1, "6;0=3;1=4;2>0,1;5>0,1");
        due("24 first ones alone", x.chains(1, 1), 4);
        due("24 pairs of first ones", x.chains(1, 2), 4);
        due("25 euler of a circle", x.euler(1), 1000);
        due("26 parts of a circle", x.holes(1, 0), 1);
        due("26 a circle's hole", x.holes(1, 1), 1);
        due("26 nothing in it", x.holes(1, 2), 0);
        // the sphere by three pairs
        Check.tell(x, 2, "6;2>0,1;3>0,1;4>2,3;5>2,3");
        due("25 euler of a sphere", x.euler(2), 1002);
        int[] sphere = {1, 0, 1, 0, 0, 0, 0, 0};
        for (int k = 0; k <= 7; k++) {
            due("26 holes(2, " + k + ")", x.holes(2, k), sphere[k]);
        }
        // all of three below all of four: 12 - 7 + 1 = 6 holes
        Check.tell(x, 3, "7;3>0,1,2;4>0,1,2;5>0,1,2;6>0,1,2");
        due("25 euler of three below four", x.euler(3), 1000 + 7 - 12);
        due("26 six holes", x.holes(3, 1), 6);
        x.points(4, 7);
        due("26 seven parts", x.holes(4, 0), 7);
        due("26 of none", x.holes(5, 0), 0);
        due("24 of none", x.chains(5, 1), 0);
        due("25 of none", x.euler(5), 1000);
        due("24 chains(0, 0)", x.chains(0, 0), BAD);
        due("24 chains(0, 9)", x.chains(0, 9), BAD);
        due("26 holes(1, -1)", x.holes(1, -1), BAD);
        due("26 holes(1, 8)", x.holes(1, 8), BAD);
        for (int s : NO_SPACES) {
            due("24 chains(" + s + ", 1)", x.chains(s, 1), BAD);
            due("25 euler(" + s + ")", x.euler(s), BAD);
            due("26 holes(" + s + ", 0)", x.holes(s, 0), BAD);
        }
    }

    private static void dividing() {
        NestedPoints x = new NestedPoints();
        Check.tell(x, 0, CIRCLE);
        // points first, then {0,2} 5, {1,2} 6, {0,3} 9, {1,3} 10
        due("27 divide(0, 1)", x.divide(0, 1), 8);
        Check.lowsDue("27 circle", x, 1, "1 2 4 8 21 38 73 138");
        Check.tell(x, 2, CHAIN3);
        due("27 divide(2, 2): its own", x.divide(2, 2), 7);
        Check.lowsDue("27 chain of 3", x, 2, "1 2 4 11 21 38 127");
        due("27 more than 8", x.divide(2, 3), FULL);
        due("27 nothing changed", x.told(3, 0), 0);
        due("27 of none", x.divide(4, 2), 0);
        Check.tell(x, 4, "8;0=1;1=2;2=3;4=5;5=6;6=7");
        due("27 first ones alone", x.divide(4, 2), 2);
        for (int s : NO_SPACES) {
            due("27 divide(" + s + ", 0)", x.divide(s, 0), BAD);
            due("27 divide(2, " + s + ")", x.divide(2, s), BAD);
        }
        due("27 BAD ahead of FULL", x.divide(1, 6), BAD);
    }

    private static void row(NestedPoints x, int sheet, int sort, int... values) {
        x.sheet(sheet, sort, values.length);
        for (int i = 0; i < values.length; i++) {
            x.put(sheet, i, values[i]);
        }
    }

    private static void facets() {
        NestedPoints x = new NestedPoints();
        row(x, 0, 1, 15, 3, 6, 5, 0, 16, 8, 8, 8, 8, 8, 8, 8, 8);
        due("28 the edge of a triangle", x.faces(0, 1, 3, 0), 6);
        Check.lowsDue("28 1, 2, 4, 3, 5, 6", x, 0, "1 2 4 11 21 38");
        due("28 one facet, more than 8", x.faces(0, 0, 1, 0), FULL);
        due("28 0 is no set", x.faces(0, 3, 2, 0), BAD);
        due("28 16 is no set", x.faces(0, 5, 1, 0), BAD);
        due("28 BAD ahead of FULL", x.faces(0, 0, 6, 0), BAD);
        due("28 nothing changed", x.told(0, 0), 6);
        due("28 the same one eight times", x.faces(0, 6, 8, 0), 1);
        due("28 nine", x.faces(0, 5, 9, 0), BAD);
        due("28 none", x.faces(0, 5, 0, 0), BAD);
        due("28 outside", x.faces(0, 7, 8, 0), OUTSIDE);
        due("28 outside", x.faces(0, -1, 1, 0), OUTSIDE);
        due("28 outside", x.faces(0, MAX, 8, 0), OUTSIDE);
        due("28 outside ahead of another number", x.faces(0, 13, 2, 0), OUTSIDE);
        due("28 missing", x.faces(1, 0, 1, 0), NOTHING);
        row(x, 2, 0, 1);
        row(x, 3, 2, 1);
        due("28 bytes", x.faces(2, 0, 1, 0), OTHER_SORT);
        due("28 longs, and outside", x.faces(3, 9, 1, 0), OTHER_SORT);
        due("28 BAD ahead of missing", x.faces(1, 0, 9, 0), BAD);
        due("28 BAD ahead of missing", x.faces(1, 0, 1, 6), BAD);
        for (int s : NO_SPACES) {
            due("28 faces(0, 1, 1, " + s + ")", x.faces(0, 1, 1, s), BAD);
        }
        due("28 faces(4, ..)", x.faces(4, 0, 1, 0), BAD);
        due("28 faces(-1, ..)", x.faces(-1, 0, 1, 0), BAD);
    }

    private static void making() {
        NestedPoints x = new NestedPoints();
        Check.tell(x, 0, VEE);
        Check.tell(x, 1, "2;1>0");
        due("29 turned over", x.made(0, 0, MIN, 2), 3);
        Check.lowsDue("29 turned over", x, 2, "7 2 4");
        due("29 both", x.made(1, 0, 1, 2), 5);
        Check.lowsDue("29 both", x, 2, "1 3 5 8 24");
        due("29 all of a below all of b", x.made(2, 0, 1, 2), 5);
        Check.lowsDue("29 all of a below all of b", x, 2, "1 3 5 15 31");
        due("29 pairs", x.made(3, 0, 1, 2), 6);
        // (0,0) (0,1) (1,0) (1,1) (2,0) (2,1)
        Check.lowsDue("29 pairs", x, 2, "1 3 5 15 17 51");
        due("29 one above all", x.made(4, 0, -9, 2), 4);
        Check.lowsDue("29 one above all", x, 2, "1 3 5 15");
        due("29 two above all", x.made(5, 0, 77, 2), 5);
        Check.lowsDue("29 two above all", x, 2, "1 3 5 15 23");
        Check.tell(x, 3, "5;3=0;4>3;1=4");
        due("29 first ones", x.made(6, 3, 0, 2), 3);
        Check.lowsDue("29 first ones 0, 1, 2", x, 2, "1 3 4");
        due("29 to itself", x.made(2, 1, 1, 1), 4);
        Check.lowsDue("29 to itself", x, 1, "1 3 7 15");
        due("29 to itself, turned", x.made(0, 1, 0, 1), 4);
        Check.lowsDue("29 to itself, turned", x, 1, "15 14 12 8");
        due("29 4 and 5 are 9", x.made(1, 1, 3, 2), FULL);
        due("29 4 and 5 are 9", x.made(2, 1, 3, 2), FULL);
        due("29 3 times 3", x.made(3, 0, 0, 2), FULL);
        due("29 0 times 5", x.made(3, 4, 3, 4), 0);
        due("29 4 and 4", x.made(1, 1, 1, 2), 8);
        due("29 8 and 1", x.made(4, 2, 0, 2), FULL);
        x.points(2, 7);
        due("29 7 and 2", x.made(5, 2, 0, 2), FULL);
        due("29 7 and 1", x.made(4, 2, 0, 2), 8);
        due("29 two above none", x.made(5, 5, 0, 2), 2);
        Check.lowsDue("29 two above none", x, 2, "1 2");
        due("29 made(7, ..)", x.made(7, 0, 0, 2), BAD);
        due("29 made(-1, ..)", x.made(-1, 0, 0, 2), BAD);
        due("29 b counts", x.made(1, 0, 6, 2), BAD);
        due("29 b counts, ahead of FULL", x.made(3, 0, -1, 2), BAD);
        parts(x);
        for (int s : NO_SPACES) {
            due("29 made(0, " + s + ", 0, 2)", x.made(0, s, 0, 2), BAD);
            due("29 made(0, 0, 0, " + s + ")", x.made(0, 0, 0, s), BAD);
        }
    }

    private static void parts(NestedPoints x) {
        Check.tell(x, 0, "5;0=4;2>4;3>1");
        due("30 part(0, {0, 2, 3}, 1)", x.part(0, 13, 1), 3);
        Check.lowsDue("30 part", x, 1, "1 3 4");
        due("30 to itself", x.part(0, 21, 0), 3);
        Check.lowsDue("30 to itself", x, 0, "5 7 5");
        due("30 of none", x.part(0, 0, 1), 0);
        due("30 none left", x.told(1, 0), 0);
        due("30 part(0, 8, 1)", x.part(0, 8, 1), BAD);
        due("30 part(0, -1, 1)", x.part(0, -1, 1), BAD);
        for (int s : NO_SPACES) {
            due("30 part(" + s + ", 0, 1)", x.part(s, 0, 1), BAD);
            due("30 part(0, 0, " + s + ")", x.part(0, 0, s), BAD);
        }
    }

    private static void texts() {
        tape();
        goodTexts();
        faults();
    }

    private static void tape() {
        NestedPoints x = new NestedPoints();
        for (int i = 1; i <= 12; i++) {
            due("31 eight more", x.feed(0x2020202020202020L, 8), 8 * i);
        }
        due("31 101 bytes", x.feed(0x2020202020202020L, 5), FULL);
        due("31 nothing came", x.many(3), 96);
        due("31 100 bytes", x.feed(0x33202020L, 4), 100);
        due("31 full", x.feed(0, 1), FULL);
        due("31 BAD ahead of FULL", x.feed(0, 9), BAD);
        due("31 feed(0, 0)", x.feed(0, 0), BAD);
        due("31 feed(0, -1)", x.feed(0, -1), BAD);
        due("31 feed(0, MIN)", x.feed(0, MIN), BAD);
        for (int s : NO_SPACES) {
            due("32 space(" + s + ")", x.space(s), BAD);
        }
        due("32 the tape stays", x.many(3), 100);
        due("32 99 blanks and a 3", x.space(0), 3);
        due("32 used up", x.many(3), 0);
        due("31 the lowest first", x.feed(0xFFFFFFFF303E313BL << 8 | '2', 5), 5);
        due("32 2;1>0", x.space(0), 2);
        Check.lowsDue("32 2;1>0", x, 0, "1 3");
    }

    private static void text(NestedPoints x, String text, String lows) {
        due("32 " + text, Check.tell(x, 0, text), lows.isEmpty() ? 0 : lows.split(" ").length);
        Check.lowsDue("32 " + text, x, 0, lows);
    }

    private static void goodTexts() {
        NestedPoints x = new NestedPoints();
        text(x, "0", "");
        text(x, "8", "1 2 4 8 16 32 64 128");
        text(x, " 3 ; 2 > 0 , 1 ; 0 = 1 ", "3 3 7");
        text(x, "3;2>0,0,1,0", "1 2 7");
        text(x, "4;1>0;2>1;3>2;0=3", "15 15 15 15");
        text(x, "  1  ", "1");
    }

    private static void faults() {
        NestedPoints x = new NestedPoints();
        Check.tell(x, 0, CHAIN3);
        String[] texts = {"", "   ", "9", ";", "a", "3;", "3;3", "3;0", "3;0>", "3;0>0", "3;0>3", "3;0>1,", "3;0>1,0", "3;0>1;",
            "3;0>1,2=", "3;0=", "3;0=0", "3;0=1,2", "3;0=1>2", "3;0<1", "33", "3 3", "3 ; 0 1", "0;0", "1;0>0", "3;;", "3;0>1 2",
            "3;\u00e9", "3\u0000", "-1", "3;0=3"};
        int[] places = {0, 3, 0, 0, 0, 2, 2, 3, 4, 4, 4, 6, 6, 6,
            7, 4, 4, 5, 5, 3, 1, 2, 6, 2, 4, 2, 6,
            2, 1, 0, 4};
        for (int i = 0; i < texts.length; i++) {
            due("32 <" + texts[i] + ">", Check.tell(x, 0, texts[i]), -100 - places[i]);
            due("32 the tape is used up", x.many(3), 0);
        }
        Check.lowsDue("32 nothing changed", x, 0, "1 3 7");
    }

    private static void drawing() {
        NestedPoints x = new NestedPoints();
        due("33 seed(5)", x.seed(5), 1);
        due("33 seed(MIN)", x.seed(MIN), 5);
        due("33 seed(1)", x.seed(1), MIN);
        int z = 1;
        int drawn = 0;
        x.points(1, 4);
        for (int p = 0; p < 4; p++) {
            for (int q = 0; q < 4; q++) {
                if (p != q) {
                    z = z * 1103515245 + 12345;
                    drawn++;
                    if ((z >>> 16) % 100 < 25) {
                        x.nest(1, p, q);
                    }
                }
            }
        }
        due("34 draw(0, 4, 25)", x.draw(0, 4, 25), x.told(1, 1));
        Check.lowsDue("34 as nested by hand", x, 0, Check.lows(x, 1));
        due("34 twelve draws", drawn, 12);
        due("34 z after them", x.seed(3), z);
        due("34 draw(0, 8, 0)", x.draw(0, 8, 0), 0);
        due("34 eight apart", x.told(0, 3), 8);
        due("34 draw(0, 8, 100): all alike", x.draw(0, 8, 100), 0);
        due("34 all alike", x.of(0, 0, 3), 255);
        due("34 draw(0, 0, 50)", x.draw(0, 0, 50), 0);
        x.seed(9);
        due("34 draw(0, 9, 0)", x.draw(0, 9, 0), BAD);
        due("34 draw(0, -1, 0)", x.draw(0, -1, 0), BAD);
        due("34 draw(0, 1, 101)", x.draw(0, 1, 101), BAD);
        due("34 draw(0, 1, -1)", x.draw(0, 1, -1), BAD);
        for (int s : NO_SPACES) {
            due("34 draw(" + s + ", 1, 1)", x.draw(s, 1, 1), BAD);
        }
        due("34 no draws then", x.seed(9), 9);
    }

    private static void sheetRows() {
        sheets();
        items();
        copies();
    }

    private static void sheets() {
        NestedPoints x = new NestedPoints();
        due("35 sheet(0, 0, 40)", x.sheet(0, 0, 40), 1);
        due("36 put(0, 39, 5)", x.put(0, 39, 5), 1);
        due("37 item(0, 0, 39)", x.item(0, 0, 39), 5);
        due("35 sheet(0, 0, 40) anew", x.sheet(0, 0, 40), 1);
        due("35 all 0", x.item(0, 0, 39), 0);
        due("35 sheet(0, 2, 0)", x.sheet(0, 2, 0), 1);
        due("36 put(0, 0, 1): no places", x.put(0, 0, 1), OUTSIDE);
        due("35 sheet(0, -1, MIN)", x.sheet(0, -1, MIN), 1);
        due("36 missing", x.put(0, 0, 1), NOTHING);
        due("35 sheet(0, -1, 99)", x.sheet(0, -1, 99), 1);
        due("35 sheet(0, 1, 41)", x.sheet(0, 1, 41), BAD);
        due("35 sheet(0, 1, -1)", x.sheet(0, 1, -1), BELOW_NONE);
        due("35 sheet(0, 1, MIN)", x.sheet(0, 1, MIN), BELOW_NONE);
        due("35 sheet(0, 3, 1)", x.sheet(0, 3, 1), BAD);
        due("35 sheet(0, 3, -1): BAD ahead", x.sheet(0, 3, -1), BAD);
        due("35 sheet(0, -2, 1)", x.sheet(0, -2, 1), BAD);
        due("35 sheet(4, 0, 1)", x.sheet(4, 0, 1), BAD);
        due("35 sheet(-1, -1, 1)", x.sheet(-1, -1, 1), BAD);
        due("35 still missing", x.item(0, 1, 0), NOTHING);
    }

    private static void items() {
        NestedPoints x = new NestedPoints();
        row(x, 0, 0, 127, 256 + 7, 256, 0x7F00);
        row(x, 1, 1, 65535, 65536 + 9, -1, 40000);
        row(x, 2, 2, MIN, MAX, -1, 0);
        int[][] due = {{127, 7, 0, 0}, {65535, 9, 65535, 40000}, {MIN, MAX, -1, 0}};
        for (int sort = 0; sort < 3; sort++) {
            for (int i = 0; i < 4; i++) {
                due("37 item(" + sort + ", " + sort + ", " + i + ")", x.item(sort, sort, i), due[sort][i]);
                due("37 of another sort", x.item(sort, (sort + 1) % 3, i), OTHER_SORT);
            }
            due("36 outside", x.put(sort, 4, 1), OUTSIDE);
            due("36 outside", x.put(sort, -1, 1), OUTSIDE);
            due("36 outside", x.put(sort, MAX, 1), OUTSIDE);
            due("36 outside", x.put(sort, MIN, 1), OUTSIDE);
            due("37 outside", x.item(sort, sort, 4), OUTSIDE);
            due("37 outside", x.item(sort, sort, -1), OUTSIDE);
            due("37 another sort ahead of outside", x.item(sort, (sort + 1) % 3, 4), OTHER_SORT);
        }
        // bytes are Java's: of 200 the lowest 8 bits tell -56
        x.put(0, 0, 200);
        due("37 a byte", x.item(0, 0, 0), -56);
        due("36 put(3, 0, 0): missing", x.put(3, 0, 0), NOTHING);
        due("36 put(3, -1, 0): missing ahead of outside", x.put(3, -1, 0), NOTHING);
        due("36 put(4, 0, 0)", x.put(4, 0, 0), BAD);
        due("36 put(-1, 0, 0)", x.put(-1, 0, 0), BAD);
        due("37 item(3, 0, 0): missing", x.item(3, 0, 0), NOTHING);
        due("37 item(3, 3, 0): BAD ahead", x.item(3, 3, 0), BAD);
        due("37 item(0, -1, 0)", x.item(0, -1, 0), BAD);
        due("37 item(4, 0, 0)", x.item(4, 0, 0), BAD);
        due("37 item(-1, 0, 0)", x.item(-1, 0, 0), BAD);
    }

    private static void copies() {
        NestedPoints x = new NestedPoints();
        row(x, 0, 1, 1, 2, 3, 4, 5);
        row(x, 1, 1, 9, 9, 9);
        due("38 to another one", x.copy(0, 1, 1, 0, 3), 3);
        rowDue(x, 1, 1, 2, 3, 4);
        due("38 to itself, upwards", x.copy(0, 0, 0, 1, 4), 4);
        rowDue(x, 0, 1, 1, 1, 2, 3, 4);
        due("38 to itself, downwards", x.copy(0, 1, 0, 0, 4), 4);
        rowDue(x, 0, 1, 1, 2, 3, 4, 4);
        due("38 none, at the end", x.copy(0, 5, 1, 3, 0), 0);
        due("38 none, behind the end", x.copy(0, 6, 1, 3, 0), OUTSIDE);
        due("38 none, behind the other's end", x.copy(0, 5, 1, 4, 0), OUTSIDE);
        due("38 below 0", x.copy(0, 0, 1, 0, -1), OUTSIDE);
        due("38 below 0", x.copy(0, -1, 1, 0, 1), OUTSIDE);
        due("38 below 0", x.copy(0, 0, 1, -1, 1), OUTSIDE);
        due("38 too many", x.copy(0, 0, 1, 0, 4), OUTSIDE);
        due("38 too many", x.copy(1, 0, 0, 2, 4), OUTSIDE);
        due("38 wraps", x.copy(0, MAX, 1, 0, MAX), OUTSIDE);
        due("38 wraps", x.copy(0, 1, 1, 0, MAX), OUTSIDE);
        row(x, 2, 0, 1, 2, 3);
        due("38 unlike sorts", x.copy(0, 0, 2, 0, 1), OTHER_SORT);
        due("38 unlike sorts ahead of outside", x.copy(0, 9, 2, 0, 1), OTHER_SORT);
        due("38 missing", x.copy(3, 0, 0, 0, 1), NOTHING);
        due("38 missing", x.copy(0, 0, 3, 0, 1), NOTHING);
        due("38 missing to itself", x.copy(3, 0, 3, 0, 0), NOTHING);
        due("38 copy(4, ..)", x.copy(4, 0, 3, 0, 1), BAD);
        due("38 copy(-1, ..)", x.copy(-1, 0, 3, 0, 1), BAD);
        due("38 copy(3, 0, 4, ..)", x.copy(3, 0, 4, 0, 1), BAD);
        due("38 copy(3, 0, -1, ..)", x.copy(3, 0, -1, 0, 1), BAD);
        rowDue(x, 0, 1, 1, 2, 3, 4, 4);
        rowDue(x, 1, 1, 2, 3, 4);
    }

    private static void rowDue(NestedPoints x, int sheet, int sort, int... want) {
        for (int i = 0; i < want.length; i++) {
            due("38 place " + i + " of sheet " + sheet, x.item(sheet, sort, i), want[i]);
        }
    }

    private static void rowsOfSets() {
        NestedPoints x = new NestedPoints();
        Check.tell(x, 0, CHAIN3);
        row(x, 0, 0, 9, 9, 9, 9);
        row(x, 1, 1, 9, 9, 9, 9);
        row(x, 2, 2, 9, 9, 9, 9);
        due("39 lay(0, 0, 1)", x.lay(0, 0, 1), 3);
        rowDue(x, 0, 0, 9, 1, 3, 7);
        due("39 lay(0, 1, 0)", x.lay(0, 1, 0), 3);
        rowDue(x, 1, 1, 1, 3, 7, 9);
        due("39 longs", x.lay(0, 2, 0), OTHER_SORT);
        due("39 longs, and outside", x.lay(0, 2, 9), OTHER_SORT);
        due("39 outside", x.lay(0, 0, 2), OUTSIDE);
        due("39 outside", x.lay(0, 0, -1), OUTSIDE);
        due("39 outside", x.lay(0, 0, MAX), OUTSIDE);
        due("39 missing", x.lay(0, 3, 0), NOTHING);
        due("39 none at the end", x.lay(5, 0, 4), 0);
        due("39 none behind the end", x.lay(5, 0, 5), OUTSIDE);
        rowDue(x, 0, 0, 9, 1, 3, 7);
        due("39 lay(0, 4, 0)", x.lay(0, 4, 0), BAD);
        due("39 lay(0, -1, 0)", x.lay(0, -1, 0), BAD);
        for (int s : NO_SPACES) {
            due("39 lay(" + s + ", 3, 0)", x.lay(s, 3, 0), BAD);
        }
        taking(x);
        // eight alike: LOW of all is 255, in a byte and back
        Check.tell(x, 0, "8;0=1;1=2;2=3;3=4;4=5;5=6;6=7");
        x.sheet(0, 0, 8);
        due("39 eight alike", x.lay(0, 0, 0), 8);
        due("40 eight alike", x.take(0, 0, 8, 3), 0);
        due("40 eight alike", x.of(3, 7, 0), 255);
    }

    private static void taking(NestedPoints x) {
        due("40 take(0, 1, 3, 1)", x.take(0, 1, 3, 1), 3);
        Check.lowsDue("40 chain", x, 1, "1 3 7");
        // 0 names 1 and itself not; other bits count nothing; 2 names 0: nested, so 1 comes below 2
        row(x, 1, 1, 2, 0, 0xFFF9, 0);
        due("40 what must follow", x.take(1, 0, 3, 1), 3);
        Check.lowsDue("40 what must follow", x, 1, "3 2 7");
        row(x, 1, 0, -8, 0, 0, 0);
        due("40 other bits of a byte", x.take(1, 0, 3, 1), 0);
        Check.lowsDue("40 other bits of a byte", x, 1, "1 2 4");
        due("40 none", x.take(1, 4, 0, 1), 0);
        due("40 none", x.told(1, 0), 0);
        due("40 none behind the end", x.take(1, 5, 0, 1), OUTSIDE);
        due("40 outside", x.take(1, 1, 4, 1), OUTSIDE);
        due("40 outside", x.take(1, -1, 1, 1), OUTSIDE);
        due("40 longs", x.take(2, 0, 1, 1), OTHER_SORT);
        due("40 longs, and outside", x.take(2, 9, 1, 1), OTHER_SORT);
        due("40 missing", x.take(3, 0, 1, 1), NOTHING);
        due("40 nine points", x.take(3, 0, 9, 1), BAD);
        due("40 n below 0", x.take(3, 0, -1, 1), BAD);
        due("40 take(4, ..)", x.take(4, 0, 1, 1), BAD);
        due("40 take(-1, ..)", x.take(-1, 0, 1, 1), BAD);
        for (int s : NO_SPACES) {
            due("40 take(3, 0, 1, " + s + ")", x.take(3, 0, 1, s), BAD);
        }
    }

    private static void shelvesAndActs() {
        NestedPoints x = new NestedPoints();
        // which kind is under which: rows by what is held, columns by what it is taken for
        String[] under = {"100000", "110000", "101000", "110100", "110110", "101001"};
        for (int kind = 0; kind < 6; kind++) {
            due("41 shelf(3, 0, " + kind + ")", x.shelf(3, 0, kind), 1);
            for (int as = 0; as < 6; as++) {
                int want = under[kind].charAt(as) == '1' ? kind : OTHER_SORT;
                due("42 " + kind + " taken for " + as, x.taken(3, as), want);
            }
            due("42 taken for a row", x.taken(3, 10), OTHER_SORT);
        }
        row(x, 0, 1, 1, 2, 3);
        due("41 shelf(0, 1, 0)", x.shelf(0, 1, 0), 1);
        due("42 a row of chars", x.taken(0, 11), 3);
        due("42 no row of bytes", x.taken(0, 10), OTHER_SORT);
        due("42 no row of longs", x.taken(0, 12), OTHER_SORT);
        due("42 no reduction", x.taken(0, 0), OTHER_SORT);
        x.sheet(0, 2, 7);
        due("42 the row that the sheet had then", x.taken(0, 11), 3);
        due("41 a row of none", x.sheet(1, 0, 0), 1);
        due("41 a row of none", x.shelf(1, 1, 1), 1);
        due("42 a row of none", x.taken(1, 10), 0);
        due("41 a missing row", x.shelf(0, 1, 2), 1);
        due("42 nothing", x.taken(0, 11), NOTHING);
        due("41 nothing, whatever n", x.shelf(3, 2, MIN), 1);
        due("42 nothing", x.taken(3, 5), NOTHING);
        x.shelf(0, 0, 4);
        due("41 shelf(0, 0, 6)", x.shelf(0, 0, 6), BAD);
        due("41 shelf(0, 0, -1)", x.shelf(0, 0, -1), BAD);
        due("41 shelf(0, 1, 4)", x.shelf(0, 1, 4), BAD);
        due("41 shelf(0, 1, -1)", x.shelf(0, 1, -1), BAD);
        due("41 shelf(0, 3, 0)", x.shelf(0, 3, 0), BAD);
        due("41 shelf(0, -1, 0)", x.shelf(0, -1, 0), BAD);
        due("41 shelf(4, 0, 0)", x.shelf(4, 0, 0), BAD);
        due("41 shelf(-1, 2, 0)", x.shelf(-1, 2, 0), BAD);
        due("42 still held", x.taken(0, 4), 4);
        for (int as : new int[] {-1, 6, 9, 13, MIN, MAX}) {
            due("42 taken(0, " + as + ")", x.taken(0, as), BAD);
        }
        due("42 taken(4, 0)", x.taken(4, 0), BAD);
        due("42 taken(-1, 0)", x.taken(-1, 0), BAD);
        acts();
    }

    private static void acted(NestedPoints x, int kind, int act, int want, int... bodies) {
        x.shelf(2, 0, kind);
        String name = "43 kind " + kind + " act " + act;
        due(name, x.act(2, act, 5), want);
        due("45 " + name + ": bodies", x.many(4), bodies.length);
        for (int i = 0; i < bodies.length; i++) {
            due("44 " + name + ": trace " + i, x.trace(i), bodies[i]);
        }
        due("44 " + name + ": no more", x.trace(bodies.length), NONE);
    }

    private static void acts() {
        NestedPoints x = new NestedPoints();
        acted(x, 0, 0, 15, 10);
        acted(x, 0, 1, 13, 11, 10);
        acted(x, 0, 2, 13 ^ 0, 12, 11, 10, 10);
        // down: goes(x) = (3x + 1) * 2
        acted(x, 1, 0, 32, 20, 10);
        acted(x, 1, 1, 30, 11, 20, 10);
        acted(x, 1, 2, 30 ^ 8, 12, 11, 20, 10, 20, 10);
        // up: goes 3x + 2; pays goes - 2 + 7; tells -(pays ^ goes(2))
        acted(x, 2, 0, 17, 10);
        acted(x, 2, 1, 22, 30, 11, 10);
        acted(x, 2, 2, -(22 ^ 8), 31, 12, 30, 11, 10, 10);
        // beat: goes (3x + 3) * 2; tells is that of like, by x + 1
        acted(x, 3, 0, 36, 20, 10);
        acted(x, 3, 1, 34, 11, 20, 10);
        acted(x, 3, 2, 40 ^ 24, 40, 12, 11, 20, 10, 20, 10);
        // weak: goes (3x + 4) * 2 - 5; tells as beat's, and pays(1)
        acted(x, 4, 0, 33, 50, 20, 10);
        acted(x, 4, 1, 31, 11, 50, 20, 10);
        acted(x, 4, 2, ((22 * 2 - 5 - 2) ^ (16 * 2 - 5)) + (14 - 5 - 2),
            51, 40, 12, 11, 50, 20, 10, 50, 20, 10, 11, 50, 20, 10);
        // strict: goes (3x + 5) ^ 12; pays goes - 2 + 7 - goes(2); tells -(pays ^ goes(5))
        acted(x, 5, 0, 20 ^ 12, 60, 10);
        acted(x, 5, 1, (20 ^ 12) + 5 - (11 ^ 12), 61, 30, 11, 60, 10, 60, 10);
        acted(x, 5, 2, -(((20 ^ 12) + 5 - (11 ^ 12)) ^ (20 ^ 12)), 31, 12, 61, 30, 11, 60, 10, 60, 10, 60, 10);
        due("43 wraps", x.act(2, 0, MAX), (MAX * 3 + 5) ^ 12);
        noActs(x);
    }

    private static void noActs(NestedPoints x) {
        int[][] calls = {{2, 3}, {2, -1}, {4, 0}, {-1, 0}, {0, 0}, {1, 0}, {2, MAX}};
        x.sheet(0, 0, 3);
        x.shelf(1, 1, 0);
        for (int[] call : calls) {
            due("43 an act", x.act(2, 1, 5) != 0 ? 1 : 0, 1);
            due("43 act(" + call[0] + ", " + call[1] + ", 5)", x.act(call[0], call[1], 5), 0);
            due("44 no trace then", x.trace(0), NONE);
            due("45 no bodies then", x.many(4), 0);
        }
        x.act(2, 1, 5);
        due("44 trace(-1)", x.trace(-1), NONE);
        due("44 trace(30)", x.trace(30), NONE);
        due("44 trace(MAX)", x.trace(MAX), NONE);
    }

    private static void keeping() {
        NestedPoints x = new NestedPoints();
        Check.tell(x, 0, CHAIN3);
        Check.tell(x, 5, "2;0=1");
        x.seed(77);
        due("45 spaces with points", x.many(0), 2);
        due("45 points of all", x.many(1), 5);
        due("45 plain ones", x.many(2), 31);
        due("45 many(5)", x.many(5), BAD);
        due("45 many(-1)", x.many(-1), BAD);
        due("47 nothing is kept", x.again(), NONE);
        due("46 keep()", x.keep(), 1);
        x.points(0, 8);
        x.points(3, 1);
        x.nest(5, 0, 1);
        x.points(5, 0);
        x.seed(5);
        Check.feed(x, "12");
        due("47 again()", x.again(), 5);
        Check.lowsDue("47 space 0", x, 0, "1 3 7");
        Check.lowsDue("47 space 5", x, 5, "3 3");
        due("47 space 3", x.told(3, 0), 0);
        due("47 z, too", x.seed(6), 77);
        due("47 the tape is not kept", x.many(3), 2);
        x.nest(0, 0, 2);
        due("47 it stays", x.again(), 5);
        Check.lowsDue("47 it stays", x, 0, "1 3 7");
        due("47 z, too", x.seed(8), 77);
        x.points(1, 3);
        due("46 keep()", x.keep(), 1);
        x.points(1, 1);
        due("47 the latest", x.again(), 8);
        due("47 the latest z", x.seed(0), 8);
    }
}
