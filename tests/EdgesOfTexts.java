/** Promises 31 to 34: texts and draws. */
final class EdgesOfTexts {
    private EdgesOfTexts() {
    }

    static void all() {
        feed();
        fullTape();
        space();
        seed();
        draw();
        drawRefused();
    }

    private static void feed() {
        Edge.says(31, "The n lowest bytes of a number come to THE TAPE, the lowest first: how many it has.");
        // '1', and ';' above it, which does not come
        Edge.does("feed(0x3b31, 1)", 1, "tape");
        Edge.does("space(0)", 1, "space 0", "tape");
        Edge.does("feed(0x3b31, 2)", 2, "tape");
        Edge.does("space(0)", -100 - 2, "tape");
        // 3;2>0,1 in eight bytes with a blank
        Edge.does("feed(0x20312c303e323b33, 8)", 8, "tape");
        Edge.does("space(0)", 3, "space 0", "tape");
        Edge.lows(0, "1 2 7");
        // the highest byte of all, which is above 127 and no blank
        Edge.does("feed(0xff20202020202033, 8)", 8, "tape");
        Edge.does("space(0)", -100 - 7, "tape");
        Edge.does("feed(-1, 1)", 1, "tape");
        Edge.does("feed(-1, 8)", 9, "tape");
        Edge.does("space(0)", -100, "tape");
        Edge.does("feed(0, 8)", 8, "tape");

        Edge.says(31, "BAD: n is not 1 to 8;");
        Edge.rich();
        Edge.range("feed(50, #)", 1, 8);
        Edge.refused(Edge.BAD, "feed(50, 0)", "feed(-1, 9)");
    }

    private static void fullTape() {
        Edge.says(31, "FULL.");
        Edge.feed(" ".repeat(91));
        Edge.asks("many(3)", 91);
        Edge.does("feed(0x2020202020202020, 8)", 99, "tape");
        // one more goes, two do not
        Edge.refused(Edge.FULL, "feed(0x3232, 2)", "feed(0x3232323232323232, 8)");
        Edge.does("feed(0x32, 1)", 100, "tape");
        Edge.refused(Edge.FULL, "feed(0x32, 1)", "feed(0x32, 8)");
        Edge.refused(Edge.BAD, "feed(0x32, 0)", "feed(0x32, 9)", "feed(0x32, -1)");
        Edge.does("space(0)", 2, "space 0", "tape");
        Edge.does("feed(0x3131313131313131, 8)", 8, "tape");
        // from 92 on eight are the last that go
        Edge.anew();
        Edge.feed(" ".repeat(93));
        Edge.refused(Edge.FULL, "feed(0x3232323232323232, 8)");
        Edge.does("feed(0x20202020202020, 7)", 100, "tape");
        Edge.anew();
        Edge.feed(" ".repeat(92));
        Edge.does("feed(0x3120202020202020, 8)", 100, "tape");
        Edge.does("space(0)", 1, "space 0", "tape");
    }

    private static void space() {
        Edge.says(32, "THE TAPE is a TEXT by which a SPACE becomes another one: how many POINTS;");
        Edge.rich();
        Edge.does("space(4)", 2, "space 4", "tape");
        Edge.lows(4, "1 3");
        Edge.asks("many(3)", 0);
        Edge.feed("0");
        Edge.does("space(2)", 0, "space 2", "tape");
        Edge.feed("8");
        Edge.does("space(2)", 8, "space 2", "tape");
        Edge.lows(2, "1 2 4 8 16 32 64 128");

        Edge.says(32, "-100 less the FAULT.");
        Edge.rich();
        Edge.does("space(0)", 2, "space 0", "tape");
        Edge.does("space(0)", -100, "tape");
        Edge.feed("x");
        Edge.does("space(0)", -100, "tape");
        Edge.feed("1x");
        Edge.does("space(0)", -101, "tape");
        // the farthest faults: at the last place of a full tape, and behind it
        String ninetyNine = "2" + " ".repeat(98);
        Edge.feed(ninetyNine + "1");
        Edge.asks("many(3)", 100);
        Edge.does("space(0)", -100 - 99, "tape");
        Edge.feed(ninetyNine + ";");
        Edge.does("space(0)", -100 - 100, "tape");
        Edge.feed(ninetyNine + " ");
        Edge.does("space(0)", 2, "space 0", "tape");

        Edge.says(32, "BAD (THE TAPE stays).");
        Edge.rich();
        Edge.refused(Edge.BAD, "space(-1)", "space(6)", "space(MIN)", "space(MAX)");
        Edge.asks("many(3)", 5);
        Edge.does("space(5)", 2, "space 5", "tape");
        // also a tape that is no text
        Edge.feed("?");
        Edge.refused(Edge.BAD, "space(6)", "space(-1)");
        Edge.does("space(0)", -100, "tape");
        Edge.refused(Edge.BAD, "space(6)");
    }

    private static void seed() {
        Edge.says(33, "z becomes v: what it was.");
        Edge.does("seed(MIN)", 1, "z");
        Edge.does("seed(MAX)", Integer.MIN_VALUE, "z");
        Edge.does("seed(0)", Integer.MAX_VALUE, "z");
        Edge.does("seed(-1)", 0, "z");
        Edge.does("seed(-1)", -1, "z");
        Edge.does("seed(1)", -1, "z");
        Edge.rich();
        Edge.does("seed(5)", 77, "z");
    }

    private static int next(int z) {
        return z * 1103515245 + 12345;
    }

    /** What the n-th draw (from 1 on) leaves by 100. */
    private static int rest(int seed, int n) {
        int z = seed;
        for (int i = 0; i < n; i++) {
            z = next(z);
        }
        return (z >>> 16) % 100;
    }

    private static void draw() {
        Edge.says(34, "A SPACE becomes one of n POINTS (0 to 8): for each x and each other y, x first, a draw: "
            + "if what it leaves by 100 is below v (0 to 100), y is NESTED in x:");
        int[] seeds = {1, 0, -1, 77, Integer.MAX_VALUE, Integer.MIN_VALUE, 123456789};
        for (int seed : seeds) {
            Edge.anew();
            Edge.run("seed(" + seed + ")");
            // of two points: the first draw is for y 1 in x 0, the second one for y 0 in x 1
            int first = rest(seed, 1);
            int second = rest(seed, 2);
            for (int v : new int[] {first, first + 1, second, second + 1}) {
                Edge.run("seed(" + seed + ")");
                int low0 = first < v ? 3 : 1;
                int low1 = second < v ? 3 : 2;
                Edge.does("draw(3, 2, " + v + ")", (low0 == 3) != (low1 == 3) ? 1 : 0, "space 3", "z");
                Edge.lows(3, low0 + " " + low1);
                Edge.asks("seed(" + next(next(seed)) + ")", next(next(seed)));
            }
        }
        drawnByHand(8, 12, 5);
        drawnByHand(8, 20, -987654321);
        drawnByHand(3, 50, Integer.MIN_VALUE);
        drawsOfNone();

        Edge.says(34, "pairs of one STRICTLY below another one.");
        Edge.does("draw(0, 8, 0)", 0, "space 0", "z");
        Edge.lows(0, "1 2 4 8 16 32 64 128");
        Edge.does("draw(0, 8, 100)", 0, "space 0", "z");
        Edge.lows(0, "255 255 255 255 255 255 255 255");
        Edge.does("draw(0, 0, 100)", 0, "space 0");
        // by 100 the first draw leaves 38, which is not below 38, and the second one 26, which is
        Edge.run("seed(1)");
        Edge.check("what z 1 draws first", next(1) >>> 16, 16838);
        Edge.check("what z 1 draws next", next(next(1)) >>> 16, 38526);
        Edge.does("draw(0, 2, 38)", 1, "space 0", "z");
        Edge.lows(0, "1 3");
    }

    private static void drawnByHand(int n, int v, int seed) {
        Edge.anew();
        Edge.run("points(1, " + n + ")", "seed(" + seed + ")");
        int z = seed;
        for (int x = 0; x < n; x++) {
            for (int y = 0; y < n; y++) {
                z = y == x ? z : next(z);
                if (y != x && (z >>> 16) % 100 < v) {
                    Edge.run("nest(1, " + x + ", " + y + ")");
                }
            }
        }
        Edge.run("draw(0, " + n + ", " + v + ")");
        Edge.asks("seed(" + z + ")", z);
        for (int x = 0; x < n; x++) {
            int low = Edge.answer("of(1, " + x + ", 0)");
            Edge.asks("of(0, " + x + ", 0)", low);
        }
        Edge.answers("draw(0, " + n + ", 0)", 0);
    }

    private static void drawsOfNone() {
        Edge.anew();
        Edge.rich();
        // no other y: no draw
        Edge.does("draw(2, 0, 100)", 0, "space 2");
        Edge.asks("told(2, 0)", 0);
        Edge.does("draw(2, 1, 100)", 0, "space 2");
        Edge.lows(2, "1");
        Edge.asks("seed(77)", 77);
        // what it had goes
        Edge.does("draw(1, 4, 0)", 0, "space 1", "z");
        Edge.lows(1, "1 2 4 8");
    }

    private static void drawRefused() {
        Edge.says(34, "BAD.");
        Edge.rich();
        Edge.noSpace("draw(#, 1, 50)");
        Edge.range("draw(0, #, 50)", 0, 8);
        Edge.range("draw(0, 3, #)", 0, 100);
        Edge.range("draw(0, 0, #)", 0, 100);
        Edge.asks("seed(77)", 77);
    }
}
