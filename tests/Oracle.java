import java.util.ArrayDeque;
import java.util.ArrayList;
import java.util.Arrays;
import java.util.HashMap;
import java.util.HashSet;
import java.util.List;
import java.util.Map;
import java.util.Set;
import java.util.TreeMap;
import java.util.TreeSet;

/** The document's terms said again, point by point and pair by pair, with no care for time. */
final class Oracle {
    final int n;
    /** b[x][y]: y is BELOW x. */
    final boolean[][] b;

    Oracle(int n) {
        this.n = n;
        b = new boolean[n][n];
        for (int x = 0; x < n; x++) {
            b[x][x] = true;
        }
    }

    /** Whatever pairs are told, closed by going through all triples till nothing is new. */
    static Oracle closed(int n, boolean[][] told) {
        Oracle o = new Oracle(n);
        for (int x = 0; x < n; x++) {
            for (int y = 0; y < n; y++) {
                o.b[x][y] |= told[x][y];
            }
        }
        boolean more = true;
        while (more) {
            more = false;
            for (int x = 0; x < n; x++) {
                for (int y = 0; y < n; y++) {
                    for (int z = 0; z < n; z++) {
                        if (o.b[x][y] && o.b[y][z] && !o.b[x][z]) {
                            o.b[x][z] = true;
                            more = true;
                        }
                    }
                }
            }
        }
        return o;
    }

    int pairs() {
        int sum = 0;
        for (boolean[] row : b) {
            for (boolean y : row) {
                sum += y ? 1 : 0;
            }
        }
        return sum;
    }

    boolean below(int y, int x) {
        return b[x][y];
    }

    boolean alike(int x, int y) {
        return b[x][y] && b[y][x];
    }

    boolean strict(int y, int x) {
        return b[x][y] && !b[y][x];
    }

    static boolean in(int x, int set) {
        return (set & (1 << x)) != 0;
    }

    List<Integer> list(int set) {
        List<Integer> out = new ArrayList<>();
        for (int x = 0; x < n; x++) {
            if (in(x, set)) {
                out.add(x);
            }
        }
        return out;
    }

    int all() {
        return (1 << n) - 1;
    }

    int low(int x) {
        int set = 0;
        for (int y = 0; y < n; y++) {
            set += below(y, x) ? 1 << y : 0;
        }
        return set;
    }

    int high(int x) {
        int set = 0;
        for (int y = 0; y < n; y++) {
            set += below(x, y) ? 1 << y : 0;
        }
        return set;
    }

    int height(int x) {
        int best = 0;
        for (int y = 0; y < n; y++) {
            if (strict(y, x)) {
                best = Math.max(best, height(y) + 1);
            }
        }
        return best;
    }

    int alikeSet(int x) {
        int set = 0;
        for (int y = 0; y < n; y++) {
            set += alike(x, y) ? 1 << y : 0;
        }
        return set;
    }

    int path(int x, int y) {
        int[] far = new int[n];
        Arrays.fill(far, -3);
        far[x] = 0;
        ArrayDeque<Integer> queue = new ArrayDeque<>(List.of(x));
        while (!queue.isEmpty()) {
            int p = queue.poll();
            for (int q = 0; q < n; q++) {
                if (far[q] < 0 && (below(p, q) || below(q, p))) {
                    far[q] = far[p] + 1;
                    queue.add(q);
                }
            }
        }
        return far[y];
    }

    int partOf(int x) {
        int set = 0;
        for (int y = 0; y < n; y++) {
            set += path(x, y) >= 0 ? 1 << y : 0;
        }
        return set;
    }

    boolean isOpen(int set) {
        for (int x : list(set)) {
            for (int y = 0; y < n; y++) {
                if (below(y, x) && !in(y, set)) {
                    return false;
                }
            }
        }
        return true;
    }

    int about(int set, int what) {
        int inside = 0;
        int closure = 0;
        // by the union of open sets in it, and the least closed set around it
        closure = all();
        for (int other = 0; other <= all(); other++) {
            if (isOpen(other) && (other & ~set) == 0) {
                inside |= other;
            }
            if (isOpen(all() & ~other) && (set & ~other) == 0) {
                closure &= other;
            }
        }
        switch (what) {
            case 0:
                return inside;
            case 1:
                return closure;
            case 2:
                return closure - (closure & inside);
            default:
                return (inside == set ? 1 : 0) | (closure == set ? 2 : 0);
        }
    }

    int told(int what) {
        int strict = 0;
        int covers = 0;
        int greatest = -3;
        boolean plain = true;
        Set<Integer> parts = new HashSet<>();
        for (int x = 0; x < n; x++) {
            parts.add(partOf(x));
            greatest = Math.max(greatest, height(x));
            for (int y = 0; y < n; y++) {
                plain &= x == y || !alike(x, y);
                if (strict(y, x)) {
                    strict++;
                    boolean covered = true;
                    for (int z = 0; z < n; z++) {
                        covered &= !(strict(y, z) && strict(z, x));
                    }
                    covers += covered ? 1 : 0;
                }
            }
        }
        int open = 0;
        for (int set = 0; set <= all(); set++) {
            open += isOpen(set) ? 1 : 0;
        }
        return new int[] {n, strict, covers, parts.size(), greatest, open, plain ? 1 : 0}[what];
    }

    // ---- reductions

    boolean hasTwin(int x, int s) {
        for (int y : list(s)) {
            if (y != x && alike(x, y)) {
                return true;
            }
        }
        return false;
    }

    /** Those strictly below x within s of which each has all such below it. */
    List<Integer> tops(int x, int s) {
        List<Integer> under = new ArrayList<>();
        for (int y : list(s)) {
            if (strict(y, x)) {
                under.add(y);
            }
        }
        List<Integer> out = new ArrayList<>();
        for (int t : under) {
            boolean hasAll = true;
            for (int y : under) {
                hasAll &= below(y, t);
            }
            if (hasAll) {
                out.add(t);
            }
        }
        return out;
    }

    List<Integer> bottoms(int x, int s) {
        List<Integer> over = new ArrayList<>();
        for (int y : list(s)) {
            if (strict(x, y)) {
                over.add(y);
            }
        }
        List<Integer> out = new ArrayList<>();
        for (int t : over) {
            boolean hasAll = true;
            for (int y : over) {
                hasAll &= below(t, y);
            }
            if (hasAll) {
                out.add(t);
            }
        }
        return out;
    }

    boolean downBeat(int x, int s) {
        return !hasTwin(x, s) && !tops(x, s).isEmpty();
    }

    boolean upBeat(int x, int s) {
        return !hasTwin(x, s) && !bottoms(x, s).isEmpty();
    }

    int strictlyBelow(int x, int s) {
        int set = 0;
        for (int y : list(s)) {
            set += strict(y, x) ? 1 << y : 0;
        }
        return set;
    }

    int strictlyAbove(int x, int s) {
        int set = 0;
        for (int y : list(s)) {
            set += strict(x, y) ? 1 << y : 0;
        }
        return set;
    }

    boolean shrinks(int s) {
        return Integer.bitCount(left(s, 3, 0)) == 1;
    }

    boolean may(int kind, int x, int s) {
        switch (kind) {
            case 0:
                return hasTwin(x, s);
            case 1:
                return may(0, x, s) || downBeat(x, s);
            case 2:
                return may(0, x, s) || upBeat(x, s);
            case 3:
                return may(1, x, s) || upBeat(x, s);
            case 4:
                return may(3, x, s) || shrinks(strictlyBelow(x, s)) || shrinks(strictlyAbove(x, s));
            default:
                return may(2, x, s) && strictlyBelow(x, s) != 0;
        }
    }

    List<Integer> goers(int kind, int s) {
        List<Integer> out = new ArrayList<>();
        for (int x : list(s)) {
            if (may(kind, x, s)) {
                out.add(x);
            }
        }
        return out;
    }

    int price(int kind, int x, int s) {
        switch (kind) {
            case 0:
                return 1;
            case 1:
                return price(0, x, s) + Integer.bitCount(strictlyBelow(x, s));
            case 2:
                return price(0, x, s) + Integer.bitCount(strictlyAbove(x, s));
            case 3:
                return price(1, x, s);
            case 4:
                return price(3, x, s) * 2 + 1;
            default:
                return price(2, x, s) - 1;
        }
    }

    int left(int from, int kind, int order) {
        int s = from;
        while (true) {
            List<Integer> goers = goers(kind, s);
            if (goers.isEmpty()) {
                return s;
            }
            final int within = s;
            int goer;
            if (order == 0) {
                goer = goers.get(0);
            } else if (order == 1) {
                goer = goers.get(goers.size() - 1);
            } else {
                int sign = order == 2 ? 1 : -1;
                goers.sort((p, q) -> {
                    int byPrice = sign * Integer.compare(price(kind, p, within), price(kind, q, within));
                    return byPrice != 0 ? byPrice : Integer.compare(p, q);
                });
                goer = goers.get(0);
            }
            s -= 1 << goer;
        }
    }

    private long rows(int kind, int s, Map<Integer, Long> known, TreeSet<Integer> ends) {
        if (known.containsKey(s)) {
            return known.get(s);
        }
        List<Integer> goers = goers(kind, s);
        long sum = 0;
        if (goers.isEmpty()) {
            ends.add(s);
            sum = 1;
        }
        for (int x : goers) {
            sum += rows(kind, s - (1 << x), known, ends);
        }
        known.put(s, sum);
        return sum;
    }

    int[] ways(int kind) {
        TreeSet<Integer> ends = new TreeSet<>();
        long rows = rows(kind, all(), new HashMap<>(), ends);
        List<Oracle> unlike = new ArrayList<>();
        for (int end : ends) {
            Oracle o = part(end);
            boolean isNew = true;
            for (Oracle other : unlike) {
                isNew &= o.renumberings(other).isEmpty();
            }
            if (isNew) {
                unlike.add(o);
            }
        }
        return new int[] {(int) rows, ends.size(), ends.first(), unlike.size()};
    }

    Oracle part(int set) {
        List<Integer> points = list(set);
        Oracle o = new Oracle(points.size());
        for (int x = 0; x < o.n; x++) {
            for (int y = 0; y < o.n; y++) {
                o.b[x][y] = b[points.get(x)][points.get(y)];
            }
        }
        return o;
    }

    int retract() {
        int[] on = new int[n];
        for (int x = 0; x < n; x++) {
            on[x] = x;
        }
        int s = all();
        while (!goers(3, s).isEmpty()) {
            int x = goers(3, s).get(0);
            int host = -1;
            for (int y = n - 1; y >= 0; y--) {
                if (in(y, s) && y != x && alike(x, y)) {
                    host = y;
                }
            }
            if (host < 0) {
                host = downBeat(x, s) ? tops(x, s).get(0) : bottoms(x, s).get(0);
            }
            for (int p = 0; p < n; p++) {
                if (on[p] == x) {
                    on[p] = host;
                }
            }
            s -= 1 << x;
        }
        return digits(on);
    }

    static int digits(int[] images) {
        int map = 0;
        int worth = 1;
        for (int image : images) {
            map += image * worth;
            worth *= 8;
        }
        return map;
    }

    Oracle core() {
        return part(left(all(), 3, 0));
    }

    // ---- sameness, maps

    private static void permutations(int n, int[] images, int k, List<int[]> out) {
        if (k == n) {
            out.add(images.clone());
            return;
        }
        for (int y = 0; y < n; y++) {
            boolean used = false;
            for (int j = 0; j < k; j++) {
                used |= images[j] == y;
            }
            if (!used) {
                images[k] = y;
                permutations(n, images, k + 1, out);
            }
        }
    }

    private static final Map<Integer, List<int[]>> PERMUTATIONS = new HashMap<>();

    static List<int[]> permutations(int n) {
        if (!PERMUTATIONS.containsKey(n)) {
            List<int[]> out = new ArrayList<>();
            permutations(n, new int[n], 0, out);
            PERMUTATIONS.put(n, out);
        }
        return PERMUTATIONS.get(n);
    }

    List<int[]> renumberings(Oracle other) {
        List<int[]> out = new ArrayList<>();
        if (other.n != n) {
            return out;
        }
        for (int[] images : permutations(n)) {
            boolean fits = true;
            for (int x = 0; x < n && fits; x++) {
                for (int y = 0; y < n && fits; y++) {
                    fits = b[x][y] == other.b[images[x]][images[y]];
                }
            }
            if (fits) {
                out.add(images);
            }
        }
        return out;
    }

    int code() {
        StringBuilder bits = new StringBuilder();
        for (int x = 0; x < n; x++) {
            for (int y = 0; y < n; y++) {
                if (x != y) {
                    bits.insert(0, b[x][y] ? '1' : '0');
                }
            }
        }
        return bits.length() == 0 ? 0 : Integer.parseInt(bits.toString(), 2);
    }

    Oracle renumbered(int[] images) {
        Oracle o = new Oracle(n);
        for (int x = 0; x < n; x++) {
            for (int y = 0; y < n; y++) {
                o.b[images[x]][images[y]] = b[x][y];
            }
        }
        return o;
    }

    int form() {
        int least = Integer.MAX_VALUE;
        for (int[] images : permutations(n)) {
            least = Math.min(least, renumbered(images).code());
        }
        return least;
    }

    static Oracle byCode(int n, int code) {
        Oracle o = new Oracle(n);
        int rest = code;
        for (int x = 0; x < n; x++) {
            for (int y = 0; y < n; y++) {
                if (x != y) {
                    o.b[x][y] = rest % 2 == 1;
                    rest /= 2;
                }
            }
        }
        return closed(n, o.b).pairs() == o.pairs() ? o : null;
    }

    /** FORMS of n points, each with how many codes have it; those of plain ones alone, if asked. */
    static TreeMap<Integer, Integer> forms(int n, boolean plain) {
        TreeMap<Integer, Integer> out = new TreeMap<>();
        for (int code = 0; code < 1 << n * (n - 1); code++) {
            Oracle o = byCode(n, code);
            if (o != null && (!plain || o.told(6) == 1)) {
                out.merge(o.form(), 1, Integer::sum);
            }
        }
        return out;
    }

    /** Images by points, or null if it is no map. */
    int[] images(Oracle other, int map) {
        int[] out = new int[n];
        int rest = map;
        for (int x = 0; x < n; x++) {
            out[x] = rest % 8;
            rest /= 8;
            if (map < 0 || out[x] >= other.n) {
                return null;
            }
        }
        return rest == 0 ? out : null;
    }

    int tears(Oracle other, int map) {
        int[] images = images(other, map);
        if (images == null) {
            return -1;
        }
        for (int x = 0; x < n; x++) {
            for (int y = 0; y < n; y++) {
                if (below(y, x) && !other.below(images[y], images[x])) {
                    return 1 + 8 * x + y;
                }
            }
        }
        return 0;
    }

    List<Integer> maps(Oracle other) {
        List<Integer> out = new ArrayList<>();
        for (int map = 0; map < 1 << 3 * n; map++) {
            if (tears(other, map) == 0) {
                out.add(map);
            }
        }
        return out;
    }

    private boolean isStep(Oracle other, int[] f, int[] g) {
        boolean under = true;
        boolean over = true;
        for (int x = 0; x < n; x++) {
            under &= other.below(g[x], f[x]);
            over &= other.below(f[x], g[x]);
        }
        return under || over;
    }

    int fence(Oracle other, int map, int to) {
        Map<Integer, Integer> far = new HashMap<>();
        ArrayDeque<Integer> queue = new ArrayDeque<>();
        List<Integer> all = maps(other);
        far.put(map, 0);
        queue.add(map);
        while (!queue.isEmpty()) {
            int f = queue.poll();
            for (int g : all) {
                if (!far.containsKey(g) && isStep(other, images(other, f), images(other, g))) {
                    far.put(g, far.get(f) + 1);
                    queue.add(g);
                }
            }
        }
        return far.getOrDefault(to, -3);
    }

    // ---- chains, complexes, what is made

    int firsts() {
        int set = 0;
        for (int x = 0; x < n; x++) {
            boolean isFirst = true;
            for (int y = 0; y < x; y++) {
                isFirst &= !alike(x, y);
            }
            set += isFirst ? 1 << x : 0;
        }
        return set;
    }

    /** In the order of a space of sets. */
    List<Integer> chains() {
        List<Integer> out = new ArrayList<>();
        for (int set = 1; set <= all(); set++) {
            boolean isChain = (set & ~firsts()) == 0;
            for (int x : list(set)) {
                for (int y : list(set)) {
                    isChain &= x == y || strict(x, y) || strict(y, x);
                }
            }
            if (isChain) {
                out.add(set);
            }
        }
        out.sort((p, q) -> Integer.bitCount(p) != Integer.bitCount(q)
            ? Integer.compare(Integer.bitCount(p), Integer.bitCount(q)) : Integer.compare(p, q));
        return out;
    }

    int chains(int k) {
        int sum = 0;
        for (int set : chains()) {
            sum += Integer.bitCount(set) == k ? 1 : 0;
        }
        return sum;
    }

    int euler() {
        int sum = 1000;
        for (int set : chains()) {
            sum += Integer.bitCount(set) % 2 == 1 ? 1 : -1;
        }
        return sum;
    }

    private int rank(int k) {
        if (k == 0) {
            return 0;
        }
        List<Integer> columns = new ArrayList<>();
        List<boolean[]> rows = new ArrayList<>();
        for (int set : chains()) {
            if (Integer.bitCount(set) == k) {
                columns.add(set);
            }
        }
        for (int set : chains()) {
            if (Integer.bitCount(set) == k + 1) {
                boolean[] row = new boolean[columns.size()];
                for (int c = 0; c < row.length; c++) {
                    row[c] = (columns.get(c) & ~set) == 0;
                }
                rows.add(row);
            }
        }
        int rank = 0;
        for (int c = 0; c < columns.size(); c++) {
            int pivot = -1;
            for (int r = rank; r < rows.size() && pivot < 0; r++) {
                pivot = rows.get(r)[c] ? r : -1;
            }
            if (pivot < 0) {
                continue;
            }
            boolean[] top = rows.get(pivot);
            rows.set(pivot, rows.get(rank));
            rows.set(rank, top);
            for (int r = 0; r < rows.size(); r++) {
                if (r != rank && rows.get(r)[c]) {
                    for (int d = 0; d < top.length; d++) {
                        rows.get(r)[d] ^= top[d];
                    }
                }
            }
            rank++;
        }
        return rank;
    }

    int holes(int k) {
        return chains(k + 1) - rank(k) - rank(k + 1);
    }

    static Oracle ofSets(List<Integer> sets) {
        Oracle o = new Oracle(sets.size());
        for (int x = 0; x < o.n; x++) {
            for (int y = 0; y < o.n; y++) {
                o.b[x][y] = (sets.get(y) | sets.get(x)) == sets.get(x);
            }
        }
        return o;
    }

    static List<Integer> faces(int[] facets) {
        List<Integer> out = new ArrayList<>();
        for (int size = 1; size <= 4; size++) {
            for (int set = 1; set < 16; set++) {
                boolean isIn = false;
                for (int facet : facets) {
                    isIn |= (set | facet) == facet;
                }
                if (isIn && Integer.bitCount(set) == size) {
                    out.add(set);
                }
            }
        }
        return out;
    }

    /** Null: more than 8 points. */
    static Oracle made(int what, Oracle a, Oracle c) {
        int[] sizes = {a.n, a.n + c.n, a.n + c.n, a.n * c.n, a.n + 1, a.n + 2, 0};
        if (sizes[what] > 8) {
            return null;
        }
        if (what == 6) {
            return a.part(a.firsts());
        }
        Oracle o = new Oracle(sizes[what]);
        for (int x = 0; x < o.n; x++) {
            for (int y = 0; y < o.n; y++) {
                o.b[x][y] = x == y || madeBelow(what, a, c, x, y);
            }
        }
        return o;
    }

    private static boolean madeBelow(int what, Oracle a, Oracle c, int x, int y) {
        if (what == 0) {
            return a.below(x, y);
        }
        if (what == 3) {
            return a.below(y / c.n, x / c.n) && c.below(y % c.n, x % c.n);
        }
        if (x < a.n && y < a.n) {
            return a.below(y, x);
        }
        if (x >= a.n && y < a.n) {
            return what != 1;
        }
        return what < 3 && x >= a.n && y >= a.n && c.below(y - a.n, x - a.n);
    }

    // ---- texts

    /** The fault of a text by its next-sign states, or -1; fills the pairs that are nested. */
    static int fault(byte[] text, int[] size, boolean[][] pairs) {
        String state = "N";
        int x = -1;
        boolean equal = false;
        for (int i = 0; i < text.length; i++) {
            char c = (char) (text[i] & 255);
            if (c == ' ') {
                continue;
            }
            int d = c >= '0' && c <= '9' ? c - '0' : 99;
            if (state.equals("N") && d <= 8) {
                size[0] = d;
                state = "END";
            } else if (state.equals("P") && d < size[0]) {
                x = d;
                state = "SIGN";
            } else if (state.equals("SIGN") && (c == '>' || c == '=')) {
                equal = c == '=';
                state = "Q";
            } else if (state.equals("Q") && d < size[0] && d != x) {
                pairs[x][d] = true;
                pairs[d][x] |= equal;
                state = equal ? "END" : "MORE";
            } else if (state.equals("MORE") && c == ',') {
                state = "Q";
            } else if ((state.equals("MORE") || state.equals("END")) && c == ';') {
                state = "P";
            } else {
                return i;
            }
        }
        return state.equals("MORE") || state.equals("END") ? -1 : text.length;
    }

    // ---- acts: kinds as classes, so that Java itself finds the bodies

    static class Like {
        final List<Integer> trace = new ArrayList<>();
        int kind() {
            return 0;
        }
        int goes(int x) {
            trace.add(10);
            return x * 3 + kind();
        }
        int pays(int x) {
            trace.add(11);
            return goes(x) - 2;
        }
        int tells(int x) {
            trace.add(12);
            return pays(x) ^ goes(kind());
        }
    }

    static class Down extends Like {
        int kind() {
            return 1;
        }
        int goes(int x) {
            trace.add(20);
            return super.goes(x) * 2;
        }
    }

    static class Up extends Like {
        int kind() {
            return 2;
        }
        int pays(int x) {
            trace.add(30);
            return super.pays(x) + 7;
        }
        int tells(int x) {
            trace.add(31);
            return 0 - super.tells(x);
        }
    }

    static class Beat extends Down {
        int kind() {
            return 3;
        }
        int tells(int x) {
            trace.add(40);
            return super.tells(x + 1);
        }
    }

    static class Weak extends Beat {
        int kind() {
            return 4;
        }
        int goes(int x) {
            trace.add(50);
            return super.goes(x) - 5;
        }
        int tells(int x) {
            trace.add(51);
            return super.tells(x) + pays(1);
        }
    }

    static class Strict extends Up {
        int kind() {
            return 5;
        }
        int goes(int x) {
            trace.add(60);
            return super.goes(x) ^ 12;
        }
        int pays(int x) {
            trace.add(61);
            return super.pays(x) - goes(2);
        }
    }

    static Like reduction(int kind) {
        switch (kind) {
            case 0:
                return new Like();
            case 1:
                return new Down();
            case 2:
                return new Up();
            case 3:
                return new Beat();
            case 4:
                return new Weak();
            default:
                return new Strict();
        }
    }
}
