import java.util.LinkedHashMap;
import java.util.Map;

/** All that calls can tell of an object, part by part. The object is used up by it: its spaces, z and tape change. */
final class State {
    private static final int MISSING = -11, OUTSIDE = -12, OTHER_SORT = -13;

    private State() {
    }

    static Map<String, String> of(Subject x) {
        Map<String, String> parts = new LinkedHashMap<>();
        for (int space = 0; space < 6; space++) {
            parts.put("space " + space, lows(x, space) + highs(x, space));
        }
        parts.put("z", "" + x.ask("seed(0)"));
        for (int sheet = 0; sheet < 4; sheet++) {
            parts.put("sheet " + sheet, row(x, sheet));
        }
        for (int shelf = 0; shelf < 4; shelf++) {
            parts.put("shelf " + shelf, held(x, shelf));
        }
        parts.put("trace", trace(x));
        parts.put("tape", tape(x));
        parts.put("kept", kept(x));
        return parts;
    }

    static String lows(Subject x, int space) {
        StringBuilder out = new StringBuilder();
        int n = x.ask("told(" + space + ", 0)");
        for (int p = 0; p < n; p++) {
            out.append(p == 0 ? "" : " ").append(x.ask("of(" + space + ", " + p + ", 0)"));
        }
        return out.toString();
    }

    private static String highs(Subject x, int space) {
        StringBuilder out = new StringBuilder();
        int n = x.ask("told(" + space + ", 0)");
        for (int p = 0; p < n; p++) {
            out.append(p == 0 ? " high " : " ").append(x.ask("of(" + space + ", " + p + ", 1)"));
        }
        return out.toString();
    }

    /** The sort of a row and what is in all its places. */
    static String row(Subject x, int sheet) {
        for (int sort = 0; sort < 3; sort++) {
            int item = x.ask("item(" + sheet + ", " + sort + ", 0)");
            if (item == MISSING) {
                return "missing";
            }
            if (item != OTHER_SORT) {
                return row(x, sheet, sort);
            }
        }
        return "of no sort";
    }

    private static String row(Subject x, int sheet, int sort) {
        StringBuilder out = new StringBuilder("sort ").append(sort).append(':');
        for (int i = 0; i <= 40; i++) {
            // A row of longs may hold -12 itself; then put() tells whether there is such a place.
            int item = x.ask("item(" + sheet + ", " + sort + ", " + i + ")");
            if (item == OUTSIDE && x.ask("put(" + sheet + ", " + i + ", -12)") == OUTSIDE) {
                break;
            }
            out.append(' ').append(item);
        }
        return out.toString();
    }

    private static String held(Subject x, int shelf) {
        StringBuilder out = new StringBuilder();
        for (int as : new int[] {0, 1, 2, 3, 4, 5, 10, 11, 12}) {
            out.append(x.ask("taken(" + shelf + ", " + as + ")")).append(' ');
        }
        return out.toString();
    }

    private static String trace(Subject x) {
        int ran = x.ask("many(4)");
        StringBuilder out = new StringBuilder().append(ran).append(':');
        for (int i = 0; i <= ran; i++) {
            out.append(' ').append(x.ask("trace(" + i + ")"));
        }
        return out.toString();
    }

    /** What is on the tape is told by what it makes of a space, or by its fault. */
    private static String tape(Subject x) {
        String bytes = x.ask("many(3)") + " bytes: ";
        int answer = x.ask("space(0)");
        return bytes + (answer < 0 ? "" + answer : lows(x, 0));
    }

    private static String kept(Subject x) {
        int points = x.ask("again()");
        if (points < 0) {
            return "" + points;
        }
        StringBuilder out = new StringBuilder().append(points).append(": z ").append(x.ask("seed(0)"));
        for (int space = 0; space < 6; space++) {
            out.append("; ").append(lows(x, space));
        }
        return out.toString();
    }
}
