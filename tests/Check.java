/** What the tests share: counting wrong answers, and telling texts to the tape. */
final class Check {
    private static int wrong = 0;
    private static int asked = 0;

    private Check() {
    }

    static void due(String what, long got, long want) {
        asked++;
        if (got != want) {
            wrong++;
            if (wrong < 60) {
                System.out.println(what + " answered " + got + ", due is " + want);
            }
        }
    }

    static void end(String name) {
        System.out.println(name + ": " + asked + " answers, " + wrong + " wrong");
        if (wrong != 0 || asked == 0) {
            System.exit(1);
        }
    }

    static int feed(NestedPoints x, String text) {
        int fed = x.many(3);
        for (int i = 0; i < text.length(); i += 8) {
            long eight = 0;
            int n = Math.min(8, text.length() - i);
            for (int j = 0; j < n; j++) {
                eight |= (long) (text.charAt(i + j) & 255) << 8 * j;
            }
            fed = x.feed(eight, n);
        }
        return fed;
    }

    /** A space told in a text. */
    static int tell(NestedPoints x, int space, String text) {
        feed(x, text);
        return x.space(space);
    }

    /** LOW of all points, in words of 8 bits. */
    static String lows(NestedPoints x, int space) {
        StringBuilder out = new StringBuilder();
        for (int p = 0; p < x.told(space, 0); p++) {
            out.append(p == 0 ? "" : " ").append(x.of(space, p, 0));
        }
        return out.toString();
    }

    static void lowsDue(String what, NestedPoints x, int space, String want) {
        asked++;
        String got = lows(x, space);
        if (!got.equals(want)) {
            wrong++;
            System.out.println(what + ": LOW of the points are " + got + ", due are " + want);
        }
    }

    static int map(int... images) {
        int map = 0;
        for (int x = 0; x < images.length; x++) {
            map |= images[x] << 3 * x;
        }
        return map;
    }
}
