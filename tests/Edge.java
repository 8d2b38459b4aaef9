import java.util.ArrayList;
import java.util.List;
import java.util.Map;

/**
 * Tests of single sentences. says() or term() quotes the sentence, makes a new object, and begins a test of its own;
 * all checks behind it hold the class to that sentence.
 *
 * The calls made so far are the story of the object. Before a call may spoil anything, the story is told to a twin:
 * what the call changes is what the twin that was asked has unlike the one that was not.
 */
final class Edge {
    static final int BAD = -1, FULL = -2, NONE = -3, NOTHING = -11, OUTSIDE = -12, OTHER = -13, BELOW_0 = -14;

    private static Doc doc;
    private static Subject x = new Subject();
    private static final List<String> STORY = new ArrayList<>();
    private static String quoted = "";
    private static int tests = 0;
    private static int checks = 0;
    private static int wrong = 0;

    private Edge() {
    }

    static void begin(Doc document) {
        doc = document;
    }

    static void end() {
        String left = doc.unquoted();
        if (!left.isEmpty()) {
            fail("no test quotes this of the document:\n" + left);
        }
        System.out.println("BoundaryTests: " + tests + " sentences, " + checks + " checks, " + wrong + " wrong");
        if (wrong != 0 || tests == 0) {
            System.exit(1);
        }
    }

    // ---- what begins a test

    static void says(int promise, String sentence) {
        quote("Promise " + promise, sentence);
    }

    static void term(int part, String sentence) {
        quote("Terms " + part, sentence);
    }

    static void quote(String part, String sentence) {
        quoted = part + ", \"" + sentence + "\"";
        tests++;
        if (!doc.quote(part, sentence)) {
            fail("the document does not say so");
        }
        anew();
    }

    /** A new object, in the same test. */
    static void anew() {
        x = new Subject();
        STORY.clear();
    }

    // ---- what is done without a look at it

    static void run(String... calls) {
        for (String call : calls) {
            int answer = tell(call);
            boolean isAny = call.startsWith("seed") || call.startsWith("act") || call.startsWith("item");
            if (answer < 0 && !isAny) {
                fail("the test's own " + call + " was refused: " + answer);
            }
        }
    }

    private static int tell(String call) {
        STORY.add(call);
        return x.ask(call);
    }

    static void feed(String text) {
        for (String call : feeding(text)) {
            run(call);
        }
    }

    private static List<String> feeding(String text) {
        List<String> calls = new ArrayList<>();
        for (int i = 0; i < text.length(); i += 8) {
            int n = Math.min(8, text.length() - i);
            StringBuilder hex = new StringBuilder();
            for (int j = n - 1; j >= 0; j--) {
                hex.append(String.format("%02x", text.charAt(i + j) & 255));
            }
            calls.add("feed(0x" + hex + ", " + n + ")");
        }
        return calls;
    }

    /** A space is told in a text. */
    static void text(int space, String text) {
        feed(text);
        run("space(" + space + ")");
    }

    static void row(int sheet, int sort, int... values) {
        run("sheet(" + sheet + ", " + sort + ", " + values.length + ")");
        for (int i = 0; i < values.length; i++) {
            run("put(" + sheet + ", " + i + ", " + values[i] + ")");
        }
    }

    /** Something everywhere, so that a call that should change nothing has much to spoil. */
    static void rich() {
        text(0, "2;1>0");
        run("points(5, 1)", "seed(99)", "keep()");
        text(0, Shapes.VEE);
        text(1, Shapes.CIRCLE);
        text(2, Shapes.CHAIN8);
        text(3, Shapes.TWINS);
        text(5, "5;1>0;2=3");
        row(0, 0, 1, 3, 7, 127, -1);
        row(1, 1, 3, 6, 12, 9, 65535, 0, 16, 15, 1);
        row(2, 2, Integer.MIN_VALUE, Integer.MAX_VALUE, 5);
        run("shelf(0, 0, 4)", "shelf(1, 1, 1)", "shelf(3, 0, 5)", "act(0, 2, 5)", "seed(77)");
        feed("2;1>0");
    }

    // ---- checks

    static void fail(String what) {
        wrong++;
        if (wrong < 60) {
            System.out.println(quoted + ": " + what);
        }
    }

    static void check(String what, long got, long want) {
        checks++;
        if (got != want) {
            fail(what + " is " + got + ", due is " + want);
        }
    }

    static void check(String what, String got, String want) {
        checks++;
        if (!got.equals(want)) {
            fail(what + " is <" + got + ">, due is <" + want + ">");
        }
    }

    private static Subject twin() {
        Subject twin = new Subject();
        for (String call : STORY) {
            twin.ask(call);
        }
        return twin;
    }

    /**
     * A call that only asks: it answers so, and changes nothing. The object itself is asked, too: it has been asked
     * all the others before, and none of them may be found in its answer.
     */
    static void asks(String call, int want) {
        Subject asked = twin();
        check(call, asked.ask(call), want);
        check(call + " behind all others", x.ask(call), want);
        unlike(call, State.of(twin()), State.of(asked));
    }

    /** A call answers so and changes nothing but these parts of the state. */
    static void does(String call, int want, String... parts) {
        Map<String, String> before = State.of(twin());
        check(call, tell(call), want);
        unlike(call, before, State.of(twin()), parts);
    }

    /** What a twin answers. */
    static int answer(String call) {
        return twin().ask(call);
    }

    /** A twin answers so; what it changes is of no interest here. */
    static void answers(String call, int want) {
        check(call, twin().ask(call), want);
    }

    private static void unlike(String call, Map<String, String> before, Map<String, String> after, String... free) {
        checks++;
        for (String part : before.keySet()) {
            if (!List.of(free).contains(part) && !before.get(part).equals(after.get(part))) {
                fail(call + " changes " + part + " from <" + before.get(part) + "> to <" + after.get(part) + ">");
            }
        }
    }

    /** Each of the calls is refused so, and changes nothing. */
    static void refused(int want, String... calls) {
        for (String call : calls) {
            asks(call, want);
        }
    }

    /** A number (# in the call) may be from the least to the most; the next ones on both sides are BAD. */
    static void range(String call, int least, int most) {
        for (int taken : new int[] {least, most}) {
            String now = at(call, taken);
            checks++;
            if (twin().ask(now) == BAD) {
                fail(now + " is refused");
            }
        }
        bad(call, least - 1, most + 1);
    }

    /** These numbers (# in the call), and those far off, are BAD. */
    static void bad(String call, int... numbers) {
        for (int number : numbers) {
            refused(BAD, at(call, number));
        }
        refused(BAD, at(call, Integer.MIN_VALUE), at(call, Integer.MAX_VALUE));
    }

    static void noSpace(String call) {
        range(call, 0, 5);
    }

    static String at(String call, int number) {
        return call.replace("#", "" + number);
    }

    /** LOW of all points of a space; and HIGH tells the same of them. */
    static void lows(int space, String want) {
        Subject twin = twin();
        check("LOW of all of space " + space, State.lows(twin, space), want);
        String[] low = want.isEmpty() ? new String[0] : want.split(" ");
        for (int y = 0; y < low.length; y++) {
            int high = 0;
            for (int x = 0; x < low.length; x++) {
                high |= (Integer.parseInt(low[x]) >> y & 1) << x;
            }
            check("HIGH of " + y + " of space " + space, twin.ask("of(" + space + ", " + y + ", 1)"), high);
        }
    }

    /** A whole row: its sort, and what is in all its places. */
    static void rowDue(int sheet, int sort, int... values) {
        StringBuilder want = new StringBuilder("sort ").append(sort).append(':');
        for (int value : values) {
            want.append(' ').append(value);
        }
        check("sheet " + sheet, State.row(twin(), sheet), want.toString());
    }

    static void missing(int sheet) {
        check("sheet " + sheet, State.row(twin(), sheet), "missing");
    }

    /** The bodies that ran in the latest act. */
    static void trace(int... bodies) {
        asks("many(4)", bodies.length);
        for (int i = 0; i < bodies.length; i++) {
            asks("trace(" + i + ")", bodies[i]);
        }
        asks("trace(" + bodies.length + ")", NONE);
    }

    /** A map of digits in eights. */
    static int map(int... images) {
        return Check.map(images);
    }
}
