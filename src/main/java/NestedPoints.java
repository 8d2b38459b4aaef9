/**
 * Finite spaces of points with nested neighbourhoods, after ../shared/DOC.md.
 *
 * All sets are bits of an int. Every row is made in a constructor and used again by all calls, so that a run of
 * calls makes no objects at all.
 */
public final class NestedPoints {
    public static final int BAD = -1, FULL = -2, NONE = -3;

    private static final int NOTHING = -11, OUTSIDE = -12, OTHER_SORT = -13, BELOW_NONE = -14;
    private static final int SPACES = 6, POINTS = 8, KINDS = 6, ORDERS = 4, SHEETS = 4, SHELVES = 4;
    private static final int FAULTS = -100;
    private static final int EULER_BASE = 1000;
    private static final int NO_ROW = -1, BYTES = 0, CHARS = 1, LONGS = 2, PLACES = 40;
    private static final int LIKE = 0, DOWN = 1, UP = 2, BEAT = 3, WEAK = 4, STRICT = 5;
    /** What a shelf holds: a kind, or this and a row's sort, or below 0 nothing. */
    private static final int ROWS = 10;

    private final Space[] spaces = new Space[SPACES];
    private final Space[] kept = new Space[SPACES];
    /** What is made stands here first, as it may go to the space that it is made of. */
    private final Space work = new Space();
    private final Going going = new Going();
    private final Matcher matcher = new Matcher();
    private final Fences fences = new Fences();
    private final Codes codes = new Codes();
    private final Sets sets = new Sets();
    private final Tape tape = new Tape();
    private final Acts acts = new Acts();
    private final Sheet[] sheets = new Sheet[SHEETS];
    private final int[] shelves = new int[SHELVES];
    private final int[] shelfLengths = new int[SHELVES];
    private int z = 1;
    private int keptZ = 1;
    private boolean isKept = false;

    public NestedPoints() {
        for (int i = 0; i < SPACES; i++) {
            spaces[i] = new Space();
            kept[i] = new Space();
        }
        for (int i = 0; i < SHEETS; i++) {
            sheets[i] = new Sheet();
        }
        for (int i = 0; i < SHELVES; i++) {
            shelves[i] = NOTHING;
        }
    }

    // ---- spaces

    public int points(int space, int n) {
        if (!isSpace(space) || !isSize(n)) {
            return BAD;
        }
        int had = spaces[space].size;
        spaces[space].scatter(n);
        return had;
    }

    public int nest(int space, int x, int y) {
        if (!isSpace(space) || !spaces[space].hasPoint(x) || !spaces[space].hasPoint(y)) {
            return BAD;
        }
        return spaces[space].enclose(x, y);
    }

    public int of(int space, int x, int what) {
        if (!isSpace(space) || !spaces[space].hasPoint(x)) {
            return BAD;
        }
        Space s = spaces[space];
        switch (what) {
            case 0:
                return s.low[x];
            case 1:
                return s.high[x];
            case 2:
                return s.height(x);
            case 3:
                return s.low[x] & s.high[x];
            case 4:
                return s.component(x);
            case 5:
                going.enter(s);
                return going.beatsOf(x);
            default:
                return BAD;
        }
    }

    public int about(int space, int points, int what) {
        if (!isSpace(space) || !spaces[space].hasSet(points)) {
            return BAD;
        }
        Space s = spaces[space];
        switch (what) {
            case 0:
                return s.inside(points);
            case 1:
                return s.closure(points);
            case 2:
                return s.closure(points) & ~s.inside(points);
            case 3:
                int others = s.all() & ~points;
                return (s.inside(points) == points ? 1 : 0) + (s.inside(others) == others ? 2 : 0);
            default:
                return BAD;
        }
    }

    public int told(int space, int what) {
        if (!isSpace(space)) {
            return BAD;
        }
        Space s = spaces[space];
        switch (what) {
            case 0:
                return s.size;
            case 1:
                return s.strictPairs();
            case 2:
                return s.covers();
            case 3:
                return s.components();
            case 4:
                return s.size == 0 ? NONE : s.greatestHeight();
            case 5:
                return s.openSets();
            case 6:
                return s.isPlain() ? 1 : 0;
            default:
                return BAD;
        }
    }

    public int path(int space, int x, int y) {
        if (!isSpace(space) || !spaces[space].hasPoint(x) || !spaces[space].hasPoint(y)) {
            return BAD;
        }
        return spaces[space].steps(x, y);
    }

    // ---- reductions

    public int may(int space, int kind, int points) {
        if (!isSpace(space) || !isKind(kind) || !spaces[space].hasSet(points)) {
            return BAD;
        }
        going.enter(spaces[space]);
        return going.goers(kind, points);
    }

    public int price(int space, int kind, int x) {
        if (!isSpace(space) || !isKind(kind) || !spaces[space].hasPoint(x)) {
            return BAD;
        }
        going.enter(spaces[space]);
        return going.priceOf(kind, x, spaces[space].all());
    }

    public int left(int space, int kind, int order) {
        if (!isSpace(space) || !isKind(kind) || !isOrder(order)) {
            return BAD;
        }
        return going.leftBy(spaces[space], kind, order);
    }

    public int reduce(int space, int kind, int order, int to) {
        if (!isSpace(space) || !isKind(kind) || !isOrder(order) || !isSpace(to)) {
            return BAD;
        }
        work.becomePart(spaces[space], going.leftBy(spaces[space], kind, order));
        return settle(to);
    }

    public int ways(int space, int kind, int what) {
        if (!isSpace(space) || !isKind(kind) || what < 0 || what > 3) {
            return BAD;
        }
        going.enter(spaces[space]);
        int rows = going.walk(kind);
        switch (what) {
            case 0:
                return rows;
            case 1:
                return going.endCount;
            case 2:
                return going.leastEnd();
            default:
                return unlikeEnds(spaces[space]);
        }
    }

    public int retract(int space) {
        if (!isSpace(space)) {
            return BAD;
        }
        going.enter(spaces[space]);
        return going.retraction();
    }

    public int homotopic(int space, int other) {
        if (!isSpace(space) || !isSpace(other)) {
            return BAD;
        }
        int core = going.leftBy(spaces[space], BEAT, 0);
        int otherCore = going.leftBy(spaces[other], BEAT, 0);
        return matcher.areSame(spaces[space], core, spaces[other], otherCore) ? 1 : 0;
    }

    // ---- sameness, maps

    public int same(int space, int other, int i) {
        if (!isSpace(space) || !isSpace(other) || i < -1 || i >= spaces[space].size) {
            return BAD;
        }
        Space a = spaces[space];
        Space b = spaces[other];
        if (i < 0) {
            return matcher.renumberings(a, b);
        }
        if (!matcher.areSame(a, a.all(), b, b.all())) {
            return NONE;
        }
        return matcher.image[i];
    }

    public int form(int space) {
        if (!isSpace(space) || spaces[space].size > Codes.CODED) {
            return BAD;
        }
        return codes.formOf(spaces[space]);
    }

    public int byCode(int space, int n, int code) {
        if (!isSpace(space) || n < 0 || n > Codes.CODED || !work.becomeCoded(n, code)) {
            return BAD;
        }
        int had = spaces[space].size;
        settle(space);
        return had;
    }

    public int list(int n, int what) {
        if (n < 0 || n > Codes.LISTED) {
            return BAD;
        }
        codes.listAll(n);
        switch (what) {
            case 0:
                return codes.all[n];
            case 1:
                return codes.plains[n];
            case 2:
                return codes.forms[n];
            case 3:
                return codes.plainForms(n);
            default:
                return BAD;
        }
    }

    public int listed(int n, int plain, int i, int what) {
        if (n < 0 || n > Codes.LISTED || plain < 0 || plain > 1 || i < 0 || what < 0 || what > 1) {
            return BAD;
        }
        codes.listAll(n);
        int place = codes.placeOf(n, plain, i);
        if (place < 0) {
            return NONE;
        }
        return what == 0 ? codes.formRows[n][place] : codes.sharers[n][place];
    }

    public int tears(int space, int other, int map) {
        if (!isSpace(space) || !isSpace(other) || !isMap(spaces[space], spaces[other], map)) {
            return BAD;
        }
        return firstTear(spaces[space], spaces[other], map);
    }

    public int maps(int space, int other) {
        if (!isSpace(space) || !isSpace(other) || spaces[space].size > 5) {
            return BAD;
        }
        return matcher.wholeMaps(spaces[space], spaces[other]);
    }

    public int fence(int space, int other, int map, int to) {
        if (!isSpace(space) || !isSpace(other) || spaces[space].size > Fences.MAPPED) {
            return BAD;
        }
        Space a = spaces[space];
        Space b = spaces[other];
        if (!isWhole(a, b, map) || !isWhole(a, b, to)) {
            return BAD;
        }
        return fences.steps(a, b, map, to);
    }

    public int fixed(int space, int map) {
        if (!isSpace(space) || !isWhole(spaces[space], spaces[space], map)) {
            return BAD;
        }
        int own = 0;
        for (int x = 0; x < spaces[space].size; x++) {
            if (digit(map, x) == x) {
                own |= 1 << x;
            }
        }
        return own;
    }

    // ---- chains, complexes, what is made

    public int chains(int space, int k) {
        if (!isSpace(space) || k < 1 || k > POINTS) {
            return BAD;
        }
        sets.becomeChains(spaces[space]);
        return sets.count(k);
    }

    public int euler(int space) {
        if (!isSpace(space)) {
            return BAD;
        }
        sets.becomeChains(spaces[space]);
        int sum = EULER_BASE;
        for (int k = 1; k <= POINTS; k++) {
            sum += (k & 1) == 1 ? sets.count(k) : -sets.count(k);
        }
        return sum;
    }

    public int holes(int space, int k) {
        if (!isSpace(space) || k < 0 || k > 7 || spaces[space].size > 7) {
            return BAD;
        }
        sets.becomeChains(spaces[space]);
        return sets.count(k + 1) - sets.rank(k) - sets.rank(k + 1);
    }

    public int divide(int space, int to) {
        if (!isSpace(space) || !isSpace(to)) {
            return BAD;
        }
        sets.becomeChains(spaces[space]);
        return settleSets(to);
    }

    public int faces(int sheet, int i, int n, int space) {
        if (!isSheet(sheet) || n < 1 || n > 8 || !isSpace(space)) {
            return BAD;
        }
        Sheet row = sheets[sheet];
        if (row.sort == NO_ROW) {
            return NOTHING;
        }
        if (row.sort != CHARS) {
            return OTHER_SORT;
        }
        if (row.isOutside(i, n)) {
            return OUTSIDE;
        }
        if (!sets.becomeFaces(row, i, n)) {
            return BAD;
        }
        return settleSets(space);
    }

    public int made(int what, int a, int b, int to) {
        if (what < 0 || what > 6 || !isSpace(a) || !isSpace(to)) {
            return BAD;
        }
        boolean ofTwo = what >= 1 && what <= 3;
        if (ofTwo && !isSpace(b)) {
            return BAD;
        }
        Space first = spaces[a];
        Space second = ofTwo ? spaces[b] : first;
        if (madeSize(what, first.size, second.size) > POINTS) {
            return FULL;
        }
        make(what, first, second);
        return settle(to);
    }

    public int part(int space, int points, int to) {
        if (!isSpace(space) || !spaces[space].hasSet(points) || !isSpace(to)) {
            return BAD;
        }
        work.becomePart(spaces[space], points);
        return settle(to);
    }

    // ---- texts, draws

    public int feed(long eight, int n) {
        if (n < 1 || n > 8) {
            return BAD;
        }
        return tape.append(eight, n) ? tape.length : FULL;
    }

    public int space(int space) {
        if (!isSpace(space)) {
            return BAD;
        }
        boolean isText = tape.read(work);
        tape.length = 0;
        return isText ? settle(space) : FAULTS - tape.place;
    }

    public int seed(int v) {
        int was = z;
        z = v;
        return was;
    }

    public int draw(int space, int n, int v) {
        if (!isSpace(space) || !isSize(n) || v < 0 || v > 100) {
            return BAD;
        }
        Space s = spaces[space];
        s.scatter(n);
        for (int x = 0; x < n; x++) {
            for (int y = 0; y < n; y++) {
                if (y != x && drawn() % 100 < v) {
                    s.enclose(x, y);
                }
            }
        }
        return s.strictPairs();
    }

    // ---- sheets, shelves, what is kept

    public int sheet(int sheet, int sort, int n) {
        if (!isSheet(sheet) || sort < NO_ROW || sort > LONGS) {
            return BAD;
        }
        if (sort == NO_ROW) {
            sheets[sheet].sort = NO_ROW;
            return 1;
        }
        if (n > PLACES) {
            return BAD;
        }
        if (n < 0) {
            return BELOW_NONE;
        }
        sheets[sheet].renew(sort, n);
        return 1;
    }

    public int put(int sheet, int i, int v) {
        if (!isSheet(sheet)) {
            return BAD;
        }
        Sheet row = sheets[sheet];
        if (row.sort == NO_ROW) {
            return NOTHING;
        }
        if (row.isOutside(i, 1)) {
            return OUTSIDE;
        }
        row.set(i, v);
        return 1;
    }

    public int item(int sheet, int sort, int i) {
        if (!isSheet(sheet) || sort < BYTES || sort > LONGS) {
            return BAD;
        }
        Sheet row = sheets[sheet];
        if (row.sort == NO_ROW) {
            return NOTHING;
        }
        if (row.sort != sort) {
            return OTHER_SORT;
        }
        if (row.isOutside(i, 1)) {
            return OUTSIDE;
        }
        return row.cells[i];
    }

    public int copy(int sheet, int i, int other, int j, int n) {
        if (!isSheet(sheet) || !isSheet(other)) {
            return BAD;
        }
        Sheet row = sheets[sheet];
        Sheet goal = sheets[other];
        if (row.sort == NO_ROW || goal.sort == NO_ROW) {
            return NOTHING;
        }
        if (row.sort != goal.sort) {
            return OTHER_SORT;
        }
        if (row.isOutside(i, n) || goal.isOutside(j, n)) {
            return OUTSIDE;
        }
        System.arraycopy(row.cells, i, goal.cells, j, n);
        return n;
    }

    public int lay(int space, int sheet, int i) {
        if (!isSpace(space) || !isSheet(sheet)) {
            return BAD;
        }
        Space s = spaces[space];
        int refusal = setRowRefusal(sheets[sheet], i, s.size);
        if (refusal < 0) {
            return refusal;
        }
        for (int x = 0; x < s.size; x++) {
            sheets[sheet].set(i + x, s.low[x]);
        }
        return s.size;
    }

    public int take(int sheet, int i, int n, int space) {
        if (!isSheet(sheet) || !isSize(n) || !isSpace(space)) {
            return BAD;
        }
        Sheet row = sheets[sheet];
        int refusal = setRowRefusal(row, i, n);
        if (refusal < 0) {
            return refusal;
        }
        Space s = spaces[space];
        s.scatter(n);
        for (int x = 0; x < n; x++) {
            for (int y = 0; y < n; y++) {
                if (has(row.cells[i + x], y)) {
                    s.enclose(x, y);
                }
            }
        }
        return s.strictPairs();
    }

    public int shelf(int shelf, int what, int n) {
        if (!isShelf(shelf) || what < 0 || what > 2) {
            return BAD;
        }
        if ((what == 0 && !isKind(n)) || (what == 1 && !isSheet(n))) {
            return BAD;
        }
        if (what == 0) {
            shelves[shelf] = n;
        } else if (what == 1 && sheets[n].sort != NO_ROW) {
            shelves[shelf] = ROWS + sheets[n].sort;
            shelfLengths[shelf] = sheets[n].length;
        } else {
            shelves[shelf] = NOTHING;
        }
        return 1;
    }

    public int taken(int shelf, int as) {
        boolean asRow = as >= ROWS && as <= ROWS + LONGS;
        if (!isShelf(shelf) || (!isKind(as) && !asRow)) {
            return BAD;
        }
        int holds = shelves[shelf];
        if (holds < 0) {
            return NOTHING;
        }
        if (asRow) {
            return holds == as ? shelfLengths[shelf] : OTHER_SORT;
        }
        return isKind(holds) && Acts.isUnder(holds, as) ? holds : OTHER_SORT;
    }

    public int act(int shelf, int act, int x) {
        acts.clear();
        if (!isShelf(shelf) || !isKind(shelves[shelf])) {
            return 0;
        }
        return acts.run(shelves[shelf], act, x);
    }

    public int trace(int i) {
        return i >= 0 && i < acts.ran && i < Acts.TRACED ? acts.trail[i] : NONE;
    }

    public int many(int what) {
        switch (what) {
            case 0:
                return pointedSpaces();
            case 1:
                return allPoints();
            case 2:
                return plainSpaces();
            case 3:
                return tape.length;
            case 4:
                return acts.ran;
            default:
                return BAD;
        }
    }

    public int keep() {
        for (int i = 0; i < SPACES; i++) {
            kept[i].become(spaces[i]);
        }
        keptZ = z;
        isKept = true;
        return 1;
    }

    public int again() {
        if (!isKept) {
            return NONE;
        }
        for (int i = 0; i < SPACES; i++) {
            spaces[i].become(kept[i]);
        }
        z = keptZ;
        return allPoints();
    }

    // ---- what the calls share

    private static boolean isSpace(int space) {
        return space >= 0 && space < SPACES;
    }

    private static boolean isSize(int n) {
        return n >= 0 && n <= POINTS;
    }

    private static boolean isKind(int kind) {
        return kind >= 0 && kind < KINDS;
    }

    private static boolean isOrder(int order) {
        return order >= 0 && order < ORDERS;
    }

    private static boolean isSheet(int sheet) {
        return sheet >= 0 && sheet < SHEETS;
    }

    private static boolean isShelf(int shelf) {
        return shelf >= 0 && shelf < SHELVES;
    }

    private static boolean has(int set, int x) {
        return (set >> x & 1) != 0;
    }

    private static int digit(int map, int x) {
        return map >> 3 * x & 7;
    }

    private static boolean isMap(Space a, Space b, int map) {
        if (map < 0 || map >> 3 * a.size != 0) {
            return false;
        }
        for (int x = 0; x < a.size; x++) {
            if (digit(map, x) >= b.size) {
                return false;
            }
        }
        return true;
    }

    /** 0, or 1 and 8 times x and y of the first pair that a map tears. */
    private static int firstTear(Space a, Space b, int map) {
        for (int x = 0; x < a.size; x++) {
            for (int y = 0; y < a.size; y++) {
                if (has(a.low[x], y) && !has(b.low[digit(map, x)], digit(map, y))) {
                    return 1 + 8 * x + y;
                }
            }
        }
        return 0;
    }

    private static boolean isWhole(Space a, Space b, int map) {
        return isMap(a, b, map) && firstTear(a, b, map) == 0;
    }

    /** What was made becomes a space. */
    private int settle(int to) {
        spaces[to].become(work);
        return work.size;
    }

    private int settleSets(int to) {
        if (sets.total() > POINTS) {
            return FULL;
        }
        sets.fill(work);
        return settle(to);
    }

    /** Of the ends of the latest walk over s those that are the same as no end ahead of them. */
    private int unlikeEnds(Space s) {
        int unlike = 0;
        for (int i = 0; i < going.endCount; i++) {
            boolean isNew = true;
            for (int j = 0; j < i && isNew; j++) {
                isNew = !matcher.areSame(s, going.ends[i], s, going.ends[j]);
            }
            unlike += isNew ? 1 : 0;
        }
        return unlike;
    }

    private static int madeSize(int what, int a, int b) {
        switch (what) {
            case 1:
            case 2:
                return a + b;
            case 3:
                return a * b;
            case 4:
                return a + 1;
            case 5:
                return a + 2;
            default:
                return a;
        }
    }

    private void make(int what, Space a, Space b) {
        switch (what) {
            case 0:
                work.becomeTurned(a);
                break;
            case 1:
            case 2:
                work.becomeSum(a, b, what == 2);
                break;
            case 3:
                work.becomeProduct(a, b);
                break;
            case 4:
            case 5:
                work.becomeTopped(a, what - 3);
                break;
            default:
                work.becomePart(a, a.firsts());
                break;
        }
    }

    /** Why n places of a row from i on cannot hold sets of points, or 0. */
    private static int setRowRefusal(Sheet row, int i, int n) {
        if (row.sort == NO_ROW) {
            return NOTHING;
        }
        if (row.sort == LONGS) {
            return OTHER_SORT;
        }
        return row.isOutside(i, n) ? OUTSIDE : 0;
    }

    private int drawn() {
        z = z * 1103515245 + 12345;
        return z >>> 16;
    }

    private int pointedSpaces() {
        int sum = 0;
        for (int i = 0; i < SPACES; i++) {
            sum += spaces[i].size > 0 ? 1 : 0;
        }
        return sum;
    }

    private int allPoints() {
        int sum = 0;
        for (int i = 0; i < SPACES; i++) {
            sum += spaces[i].size;
        }
        return sum;
    }

    private int plainSpaces() {
        int set = 0;
        for (int i = 0; i < SPACES; i++) {
            set |= spaces[i].isPlain() ? 1 << i : 0;
        }
        return set;
    }

    /** LOW and HIGH of each point: one order, told from both sides, so that neither is sought for. */
    private static final class Space {
        int size = 0;
        final int[] low = new int[POINTS];
        final int[] high = new int[POINTS];

        int all() {
            return (1 << size) - 1;
        }

        boolean hasPoint(int x) {
            return x >= 0 && x < size;
        }

        boolean hasSet(int set) {
            return (set & ~all()) == 0;
        }

        int strictlyBelow(int x) {
            return low[x] & ~high[x];
        }

        int strictlyAbove(int x) {
            return high[x] & ~low[x];
        }

        /** n points, none below another one. */
        void scatter(int n) {
            size = n;
            for (int x = 0; x < n; x++) {
                low[x] = 1 << x;
                high[x] = 1 << x;
            }
        }

        void become(Space other) {
            size = other.size;
            for (int x = 0; x < size; x++) {
                low[x] = other.low[x];
                high[x] = other.high[x];
            }
        }

        /** HIGH after LOW has been set. */
        void mirror() {
            for (int y = 0; y < size; y++) {
                high[y] = 0;
                for (int x = 0; x < size; x++) {
                    high[y] |= has(low[x], y) ? 1 << x : 0;
                }
            }
        }

        /** y is nested in x: how many pairs are new. */
        int enclose(int x, int y) {
            int under = low[y];
            int over = high[x];
            int fresh = 0;
            for (int p = 0; p < size; p++) {
                if (has(over, p)) {
                    fresh += Integer.bitCount(under & ~low[p]);
                    low[p] |= under;
                }
                if (has(under, p)) {
                    high[p] |= over;
                }
            }
            return fresh;
        }

        int strictPairs() {
            int sum = 0;
            for (int x = 0; x < size; x++) {
                sum += Integer.bitCount(strictlyBelow(x));
            }
            return sum;
        }

        int covers() {
            int sum = 0;
            for (int x = 0; x < size; x++) {
                for (int y = 0; y < size; y++) {
                    if (has(strictlyBelow(x), y) && (strictlyBelow(x) & strictlyAbove(y)) == 0) {
                        sum++;
                    }
                }
            }
            return sum;
        }

        /** Those of a set that have none of it strictly below them. */
        private int lowest(int set) {
            int found = 0;
            for (int x = 0; x < size; x++) {
                if (has(set, x) && (strictlyBelow(x) & set) == 0) {
                    found |= 1 << x;
                }
            }
            return found;
        }

        /** How often the lowest ones must be taken away till x is one of them. */
        int height(int x) {
            int rest = all();
            int h = 0;
            for (int i = 0; i < POINTS; i++) {
                int under = lowest(rest);
                if (has(under, x)) {
                    break;
                }
                rest &= ~under;
                h++;
            }
            return h;
        }

        int greatestHeight() {
            int greatest = 0;
            for (int x = 0; x < size; x++) {
                greatest = Math.max(greatest, height(x));
            }
            return greatest;
        }

        /** A set and all that are one step from it. */
        private int widened(int set) {
            int wide = set;
            for (int x = 0; x < size; x++) {
                if (has(set, x)) {
                    wide |= low[x] | high[x];
                }
            }
            return wide;
        }

        int component(int x) {
            int set = 1 << x;
            for (int i = 0; i < POINTS; i++) {
                set = widened(set);
            }
            return set;
        }

        int components() {
            int sum = 0;
            int seen = 0;
            for (int x = 0; x < size; x++) {
                if (!has(seen, x)) {
                    seen |= component(x);
                    sum++;
                }
            }
            return sum;
        }

        int steps(int x, int y) {
            int set = 1 << x;
            for (int i = 0; i < POINTS; i++) {
                if (has(set, y)) {
                    return i;
                }
                set = widened(set);
            }
            return NONE;
        }

        int inside(int set) {
            int found = 0;
            for (int x = 0; x < size; x++) {
                if (has(set, x) && (low[x] & ~set) == 0) {
                    found |= 1 << x;
                }
            }
            return found;
        }

        int closure(int set) {
            int found = 0;
            for (int x = 0; x < size; x++) {
                if ((low[x] & set) != 0) {
                    found |= 1 << x;
                }
            }
            return found;
        }

        int openSets() {
            int sum = 0;
            for (int set = 0; set <= all(); set++) {
                sum += inside(set) == set ? 1 : 0;
            }
            return sum;
        }

        /** Those to which no lesser one is alike. */
        int firsts() {
            int found = 0;
            for (int x = 0; x < size; x++) {
                int lesser = (1 << x) - 1;
                if ((low[x] & high[x] & lesser) == 0) {
                    found |= 1 << x;
                }
            }
            return found;
        }

        boolean isPlain() {
            return firsts() == all();
        }

        /** The bits of `from` at the places of `set`, drawn together. */
        private static int squeeze(int from, int set) {
            int out = 0;
            int place = 0;
            for (int x = 0; x < POINTS; x++) {
                if (has(set, x)) {
                    out |= has(from, x) ? 1 << place : 0;
                    place++;
                }
            }
            return out;
        }

        void becomePart(Space from, int set) {
            size = 0;
            for (int x = 0; x < from.size; x++) {
                if (has(set, x)) {
                    low[size] = squeeze(from.low[x], set);
                    high[size] = squeeze(from.high[x], set);
                    size++;
                }
            }
        }

        void becomeTurned(Space from) {
            size = from.size;
            for (int x = 0; x < size; x++) {
                low[x] = from.high[x];
                high[x] = from.low[x];
            }
        }

        void becomeSum(Space a, Space b, boolean joined) {
            size = a.size + b.size;
            for (int x = 0; x < a.size; x++) {
                low[x] = a.low[x];
            }
            for (int x = 0; x < b.size; x++) {
                low[a.size + x] = b.low[x] << a.size | (joined ? a.all() : 0);
            }
            mirror();
        }

        void becomeProduct(Space a, Space b) {
            size = a.size * b.size;
            for (int p = 0; p < a.size; p++) {
                for (int q = 0; q < b.size; q++) {
                    int under = 0;
                    for (int y = 0; y < a.size; y++) {
                        under |= has(a.low[p], y) ? b.low[q] << y * b.size : 0;
                    }
                    low[p * b.size + q] = under;
                }
            }
            mirror();
        }

        /** Some more behind those of a, each with all of a below it. */
        void becomeTopped(Space a, int more) {
            size = a.size + more;
            for (int x = 0; x < size; x++) {
                low[x] = x < a.size ? a.low[x] : a.all() | 1 << x;
            }
            mirror();
        }

        /** False if there is no space of that code. */
        boolean becomeCoded(int n, int code) {
            if (code < 0 || code >> n * (n - 1) != 0) {
                return false;
            }
            size = n;
            int bit = 0;
            for (int x = 0; x < n; x++) {
                low[x] = 1 << x;
                for (int y = 0; y < n; y++) {
                    if (y != x) {
                        low[x] |= has(code, bit) ? 1 << y : 0;
                        bit++;
                    }
                }
            }
            mirror();
            return isNested();
        }

        private boolean isNested() {
            for (int x = 0; x < size; x++) {
                for (int y = 0; y < size; y++) {
                    if (has(low[x], y) && (low[y] & ~low[x]) != 0) {
                        return false;
                    }
                }
            }
            return true;
        }
    }

    /** What may go of one space, within any set of its points. */
    private static final class Going {
        private static final int UNKNOWN = 0, STAYS = 1, SHRINKS = 2;

        private int size = 0;
        private final int[] low = new int[POINTS];
        private final int[] high = new int[POINTS];
        private final int[] below = new int[POINTS];
        private final int[] above = new int[POINTS];
        private final int[] twins = new int[POINTS];
        /** By sets: sets come up for many points, so each is shrunk once. */
        private final int[] shrunk = new int[1 << POINTS];
        private final int[] rows = new int[1 << POINTS];
        final int[] ends = new int[1 << POINTS];
        int endCount = 0;
        private final int[] images = new int[POINTS];

        void enter(Space s) {
            size = s.size;
            for (int x = 0; x < size; x++) {
                low[x] = s.low[x];
                high[x] = s.high[x];
                below[x] = s.strictlyBelow(x);
                above[x] = s.strictlyAbove(x);
                twins[x] = s.low[x] & s.high[x] & ~(1 << x);
            }
            for (int set = 0; set <= all(); set++) {
                shrunk[set] = UNKNOWN;
            }
        }

        private int all() {
            return (1 << size) - 1;
        }

        /** The least of a set that reaches all of it, or -1. (Calls are nearly as deep here as they may be.) */
        private int holder(int set, int[] reach) {
            for (int x = 0; x < size; x++) {
                if ((set >> x & 1) != 0 && (set & ~reach[x]) == 0) {
                    return x;
                }
            }
            return -1;
        }

        private boolean goesByLike(int x, int set) {
            return (twins[x] & set) != 0;
        }

        private boolean goesByDown(int x, int set) {
            return (twins[x] & set) != 0 || holder(below[x] & set, low) >= 0;
        }

        private boolean goesByUp(int x, int set) {
            return (twins[x] & set) != 0 || holder(above[x] & set, high) >= 0;
        }

        /** The least that may go by beat, or -1. */
        private int leastBeat(int set) {
            for (int x = 0; x < size; x++) {
                boolean isIn = has(set, x);
                if (isIn && (goesByDown(x, set) || goesByUp(x, set))) {
                    return x;
                }
            }
            return -1;
        }

        private boolean shrinks(int set) {
            int rest = set;
            for (int i = 0; i < POINTS && shrunk[rest] == UNKNOWN; i++) {
                int x = leastBeat(rest);
                if (x < 0) {
                    shrunk[rest] = Integer.bitCount(rest) == 1 ? SHRINKS : STAYS;
                } else {
                    rest &= ~(1 << x);
                }
            }
            shrunk[set] = shrunk[rest];
            return shrunk[set] == SHRINKS;
        }

        private boolean mayGo(int kind, int x, int set) {
            switch (kind) {
                case LIKE:
                    return goesByLike(x, set);
                case DOWN:
                    return goesByDown(x, set);
                case UP:
                    return goesByUp(x, set);
                case BEAT:
                    return goesByDown(x, set) || goesByUp(x, set);
                case WEAK:
                    return goesByDown(x, set) || goesByUp(x, set)
                        || shrinks(below[x] & set) || shrinks(above[x] & set);
                default:
                    return (below[x] & set) != 0 && goesByUp(x, set);
            }
        }

        /** Together 1 for a down beat, 2 for an up beat, 4 for one that may go by weak. */
        int beatsOf(int x) {
            int set = all();
            boolean isAlone = !goesByLike(x, set);
            int beats = (isAlone && goesByDown(x, set) ? 1 : 0) + (isAlone && goesByUp(x, set) ? 2 : 0);
            return beats + (mayGo(WEAK, x, set) ? 4 : 0);
        }

        int goers(int kind, int set) {
            int found = 0;
            for (int x = 0; x < size; x++) {
                if (has(set, x) && mayGo(kind, x, set)) {
                    found |= 1 << x;
                }
            }
            return found;
        }

        int priceOf(int kind, int x, int set) {
            int under = Integer.bitCount(below[x] & set);
            int over = Integer.bitCount(above[x] & set);
            switch (kind) {
                case LIKE:
                    return 1;
                case UP:
                    return 1 + over;
                case STRICT:
                    return over;
                case WEAK:
                    return 2 * (1 + under) + 1;
                default:
                    return 1 + under;
            }
        }

        /** Which of some goers goes first. */
        private int chosen(int kind, int order, int goers, int set) {
            int best = -1;
            int bestPrice = 0;
            for (int x = 0; x < size; x++) {
                if (has(goers, x)) {
                    int price = priceOf(kind, x, set);
                    boolean isBetter = order == 1 || (order == 2 && price < bestPrice)
                        || (order == 3 && price > bestPrice);
                    if (best < 0 || isBetter) {
                        best = x;
                        bestPrice = price;
                    }
                }
            }
            return best;
        }

        int leftBy(Space s, int kind, int order) {
            enter(s);
            int set = all();
            for (int i = 0; i < POINTS; i++) {
                int goers = goers(kind, set);
                if (goers == 0) {
                    break;
                }
                set &= ~(1 << chosen(kind, order, goers, set));
            }
            return set;
        }

        /**
         * How many rows of going there are; the ends, the greatest first. What goes leaves a lesser set, so each
         * set has got all its rows when its turn comes.
         */
        int walk(int kind) {
            for (int set = 0; set < all(); set++) {
                rows[set] = 0;
            }
            rows[all()] = 1;
            endCount = 0;
            int sum = 0;
            for (int set = all(); set >= 0; set--) {
                int goers = rows[set] == 0 ? 0 : goers(kind, set);
                for (int x = 0; x < size; x++) {
                    if (has(goers, x)) {
                        rows[set & ~(1 << x)] += rows[set];
                    }
                }
                if (rows[set] != 0 && goers == 0) {
                    ends[endCount] = set;
                    endCount++;
                    sum += rows[set];
                }
            }
            return sum;
        }

        int leastEnd() {
            return endCount > 0 ? ends[endCount - 1] : 0;
        }

        /** Upon which one x is put as it goes. */
        private int host(int x, int set) {
            for (int y = 0; y < size; y++) {
                if (has(twins[x] & set, y)) {
                    return y;
                }
            }
            int under = holder(below[x] & set, low);
            return under >= 0 ? under : holder(above[x] & set, high);
        }

        int retraction() {
            for (int x = 0; x < size; x++) {
                images[x] = x;
            }
            int set = all();
            for (int i = 0; i < POINTS; i++) {
                int goer = leastBeat(set);
                if (goer < 0) {
                    break;
                }
                int host = host(goer, set);
                for (int x = 0; x < size; x++) {
                    images[x] = images[x] == goer ? host : images[x];
                }
                set &= ~(1 << goer);
            }
            int map = 0;
            for (int x = 0; x < size; x++) {
                map |= images[x] << 3 * x;
            }
            return map;
        }
    }

    /** Tries images for points 0, 1, .. of one space in another one. */
    private static final class Matcher {
        private final Space from = new Space();
        private final Space to = new Space();
        final int[] image = new int[POINTS];
        /** Renumberings are sought, not maps alone. */
        private boolean isExact = false;
        private boolean isFirstEnough = false;

        /** Whether sets of points of two spaces are the same as spaces; image has the first renumbering then. */
        boolean areSame(Space a, int ofA, Space b, int ofB) {
            from.becomePart(a, ofA);
            to.becomePart(b, ofB);
            isExact = true;
            isFirstEnough = true;
            return from.size == to.size && fill(this, 0, 0) > 0;
        }

        int renumberings(Space a, Space b) {
            from.become(a);
            to.become(b);
            isExact = true;
            isFirstEnough = false;
            return from.size == to.size ? fill(this, 0, 0) : 0;
        }

        int wholeMaps(Space a, Space b) {
            from.become(a);
            to.become(b);
            isExact = false;
            isFirstEnough = false;
            return fill(this, 0, 0);
        }

        /** What the image of k may be, behind the images of all lesser ones. */
        private int choices(int k, int used) {
            int open = isExact ? to.all() & ~used : to.all();
            for (int j = 0; j < k; j++) {
                int over = to.high[image[j]];
                int under = to.low[image[j]];
                if (has(from.low[k], j)) {
                    open &= over;
                } else if (isExact) {
                    open &= ~over;
                }
                if (has(from.high[k], j)) {
                    open &= under;
                } else if (isExact) {
                    open &= ~under;
                }
            }
            return open;
        }

        /** In how many ways k and those behind it get images; k is never more than the points of a space. */
        private static int fill(Matcher m, int k, int used) {
            if (k >= m.from.size) {
                return 1;
            }
            int open = m.choices(k, used);
            if (k == m.from.size - 1 && !m.isFirstEnough) {
                return Integer.bitCount(open);
            }
            int sum = 0;
            for (int y = 0; y < m.to.size; y++) {
                if (has(open, y)) {
                    m.image[k] = y;
                    sum += fill(m, k + 1, used | 1 << y);
                    if (sum > 0 && m.isFirstEnough) {
                        return sum;
                    }
                }
            }
            return sum;
        }
    }

    /** Shortest fences between maps of small spaces. */
    private static final class Fences {
        static final int MAPPED = 3;
        private static final int MAPS = 512;
        private static final int TORN = -2, UNSEEN = -1;

        /** By maps: how many steps away, or one of the two above. */
        private final int[] far = new int[MAPS];
        private final int[] queue = new int[MAPS];

        int steps(Space a, Space b, int map, int goal) {
            int maps = Math.min(1 << 3 * a.size, MAPS);
            for (int m = 0; m < maps; m++) {
                far[m] = isWhole(a, b, m) ? UNSEEN : TORN;
            }
            far[map] = 0;
            queue[0] = map;
            int waiting = 1;
            for (int i = 0; i < waiting && i < MAPS && far[goal] < 0; i++) {
                for (int m = 0; m < maps; m++) {
                    if (far[m] == UNSEEN && isNear(a, b, queue[i], m)) {
                        far[m] = far[queue[i]] + 1;
                        queue[waiting] = m;
                        waiting++;
                    }
                }
            }
            return far[goal] < 0 ? NONE : far[goal];
        }

        private static boolean isNear(Space a, Space b, int map, int next) {
            boolean isUnder = true;
            boolean isOver = true;
            for (int x = 0; x < a.size; x++) {
                isUnder = isUnder && has(b.low[digit(map, x)], digit(next, x));
                isOver = isOver && has(b.high[digit(map, x)], digit(next, x));
            }
            return isUnder || isOver;
        }
    }

    /** Codes, forms and the list of all small spaces. */
    private static final class Codes {
        static final int CODED = 5, LISTED = 4;
        private static final int MOST_FORMS = 33;

        private final Space space = new Space();
        private final int[] order = new int[CODED];
        /** By how many numberings the latest form comes. */
        private int hits = 0;
        private final boolean[] isListed = new boolean[LISTED + 1];
        final int[] all = new int[LISTED + 1];
        final int[] plains = new int[LISTED + 1];
        final int[] forms = new int[LISTED + 1];
        final int[][] formRows = new int[LISTED + 1][MOST_FORMS];
        /** How many codes have each form. */
        final int[][] sharers = new int[LISTED + 1][MOST_FORMS];
        private final int[][] formPlain = new int[LISTED + 1][MOST_FORMS];

        private static int numberings(int n) {
            int product = 1;
            for (int i = 2; i <= n; i++) {
                product *= i;
            }
            return product;
        }

        /** The p-th numbering: order tells which point gets each number. */
        private void number(int n, int p) {
            int open = (1 << n) - 1;
            int rest = p;
            for (int k = 0; k < n; k++) {
                int skip = rest % (n - k);
                rest /= n - k;
                for (int x = 0; x < n; x++) {
                    if (has(open, x)) {
                        if (skip == 0) {
                            order[k] = x;
                        }
                        skip--;
                    }
                }
                open &= ~(1 << order[k]);
            }
        }

        private int codeByOrder(Space s) {
            int code = 0;
            int bit = 0;
            for (int i = 0; i < s.size; i++) {
                for (int j = 0; j < s.size; j++) {
                    if (j != i) {
                        code |= has(s.low[order[i]], order[j]) ? 1 << bit : 0;
                        bit++;
                    }
                }
            }
            return code;
        }

        int formOf(Space s) {
            int least = 0;
            hits = 0;
            int end = numberings(s.size);
            for (int p = 0; p < end; p++) {
                number(s.size, p);
                int code = codeByOrder(s);
                if (p == 0 || code < least) {
                    least = code;
                    hits = 0;
                }
                hits += code == least ? 1 : 0;
            }
            return least;
        }

        /** Done once for each n, as it goes through all codes. */
        void listAll(int n) {
            if (isListed[n]) {
                return;
            }
            isListed[n] = true;
            int end = 1 << n * (n - 1);
            for (int code = 0; code < end; code++) {
                if (space.becomeCoded(n, code)) {
                    all[n]++;
                    plains[n] += space.isPlain() ? 1 : 0;
                    enlist(n, code);
                }
            }
        }

        private void enlist(int n, int code) {
            if (formOf(space) == code && forms[n] < MOST_FORMS && hits > 0) {
                formRows[n][forms[n]] = code;
                sharers[n][forms[n]] = numberings(n) / hits;
                formPlain[n][forms[n]] = space.isPlain() ? 1 : 0;
                forms[n]++;
            }
        }

        int plainForms(int n) {
            int sum = 0;
            for (int place = 0; place < forms[n]; place++) {
                sum += formPlain[n][place];
            }
            return sum;
        }

        /** Where the i-th form (or plain one) stands, or -1. */
        int placeOf(int n, int plain, int i) {
            int seen = 0;
            for (int place = 0; place < forms[n]; place++) {
                if (formPlain[n][place] >= plain) {
                    if (seen == i) {
                        return place;
                    }
                    seen++;
                }
            }
            return -1;
        }
    }

    /** Some told sets: the chains of a space, or the faces of a complex. */
    private static final class Sets {
        private static final int CODES = 1 << POINTS;
        /** Of 7 points there are at most 35 chains of as many points. */
        private static final int COLUMNS = 64;

        /** How many each set has, or 0 if it is none of those told. */
        private final int[] counts = new int[CODES];
        private final int[] places = new int[CODES];
        private final long[] basis = new long[COLUMNS];
        private final int[] chosen = new int[POINTS];

        void becomeChains(Space s) {
            int firsts = s.firsts();
            for (int set = 0; set < CODES; set++) {
                boolean isChain = (set & ~firsts) == 0;
                for (int x = 0; x < s.size && isChain; x++) {
                    isChain = !has(set, x) || (set & ~(s.low[x] | s.high[x])) == 0;
                }
                counts[set] = isChain ? Integer.bitCount(set) : 0;
            }
        }

        /** False if one of the n numbers is no facet. */
        boolean becomeFaces(Sheet row, int i, int n) {
            for (int set = 0; set < CODES; set++) {
                counts[set] = 0;
            }
            for (int j = 0; j < n; j++) {
                int facet = row.cells[i + j];
                if (facet < 1 || facet > 15) {
                    return false;
                }
                for (int set = 1; set <= facet; set++) {
                    if ((set & ~facet) == 0) {
                        counts[set] = Integer.bitCount(set);
                    }
                }
            }
            return true;
        }

        int count(int k) {
            int sum = 0;
            for (int set = 1; set < CODES; set++) {
                sum += counts[set] == k ? 1 : 0;
            }
            return sum;
        }

        int total() {
            int sum = 0;
            for (int set = 1; set < CODES; set++) {
                sum += counts[set] > 0 ? 1 : 0;
            }
            return sum;
        }

        /** The space of these sets, which are no more than the points of a space. */
        void fill(Space into) {
            int n = 0;
            for (int k = 1; k <= POINTS; k++) {
                for (int set = 1; set < CODES; set++) {
                    if (counts[set] == k && n < POINTS) {
                        chosen[n] = set;
                        n++;
                    }
                }
            }
            into.size = n;
            for (int x = 0; x < n; x++) {
                into.low[x] = 0;
                for (int y = 0; y < n; y++) {
                    into.low[x] |= (chosen[y] & ~chosen[x]) == 0 ? 1 << y : 0;
                }
            }
            into.mirror();
        }

        /** RANK of k, of the chains of 7 points at most. */
        int rank(int k) {
            if (k < 1) {
                return 0;
            }
            int columns = 0;
            for (int set = 1; set < CODES; set++) {
                if (counts[set] == k) {
                    places[set] = columns;
                    columns++;
                }
            }
            int rank = 0;
            for (int set = 1; set < CODES && rank < COLUMNS; set++) {
                long row = counts[set] == k + 1 ? reduced(boundary(set), rank) : 0;
                if (row != 0) {
                    basis[rank] = row;
                    rank++;
                }
            }
            return rank;
        }

        private long boundary(int set) {
            long row = 0;
            for (int x = 0; x < POINTS; x++) {
                if (has(set, x)) {
                    row |= 1L << places[set & ~(1 << x)];
                }
            }
            return row;
        }

        /** Each basis row lacks the lowest bits of those ahead of it, so once through them is enough. */
        private long reduced(long row, int rank) {
            long rest = row;
            for (int i = 0; i < rank; i++) {
                long lowestBit = basis[i] & -basis[i];
                if ((rest & lowestBit) != 0) {
                    rest ^= basis[i];
                }
            }
            return rest;
        }
    }

    /** The tape and the reading of it. */
    private static final class Tape {
        private static final int LIMIT = 100;
        private static final int BLANK = 32;

        private final byte[] bytes = new byte[LIMIT];
        int length = 0;
        /** Where the reading stands: the fault, if it stopped. */
        int place = 0;

        boolean append(long eight, int n) {
            if (n > LIMIT - length) {
                return false;
            }
            for (int i = 0; i < n; i++) {
                bytes[length] = (byte) (eight >> 8 * i);
                length++;
            }
            return true;
        }

        /** The next byte that is no blank (place stands at it), or -1 at the end. */
        private int next() {
            while (place < length && bytes[place] == BLANK) {
                place++;
            }
            return place < length ? bytes[place] & 255 : -1;
        }

        private boolean isNext(char sign) {
            if (next() != sign) {
                return false;
            }
            place++;
            return true;
        }

        /** A digit from 0 to below the limit that is not the one barred, or -1. */
        private int digitBelow(int limit, int barred) {
            int v = next() - '0';
            if (v < 0 || v >= limit || v == barred) {
                return -1;
            }
            place++;
            return v;
        }

        boolean read(Space into) {
            place = 0;
            int n = digitBelow(POINTS + 1, -1);
            if (n < 0) {
                return false;
            }
            into.scatter(n);
            for (int i = 0; i < LIMIT && next() >= 0; i++) {
                if (!isNext(';') || !readPairs(into)) {
                    return false;
                }
            }
            return true;
        }

        private boolean readPairs(Space into) {
            int x = digitBelow(into.size, -1);
            if (x < 0) {
                return false;
            }
            boolean isEqual = isNext('=');
            if (!isEqual && !isNext('>')) {
                return false;
            }
            for (int i = 0; i < LIMIT; i++) {
                int y = digitBelow(into.size, x);
                if (y < 0) {
                    return false;
                }
                into.enclose(x, y);
                if (isEqual) {
                    into.enclose(y, x);
                }
                if (isEqual || !isNext(',')) {
                    break;
                }
            }
            return true;
        }
    }

    /** A row of a sort; put gives no long more than an int, so an int holds one of each sort. */
    private static final class Sheet {
        int sort = NO_ROW;
        int length = 0;
        final int[] cells = new int[PLACES];

        void renew(int newSort, int n) {
            sort = newSort;
            length = n;
            for (int i = 0; i < n; i++) {
                cells[i] = 0;
            }
        }

        boolean isOutside(int i, int n) {
            return i < 0 || n < 0 || i > length || n > length - i;
        }

        void set(int i, int v) {
            if (sort == BYTES) {
                cells[i] = (byte) v;
            } else if (sort == CHARS) {
                cells[i] = (char) v;
            } else {
                cells[i] = v;
            }
        }
    }

    /** The bodies of the acts, by kinds: each kind has what the kinds above it have, but for its own bodies. */
    private static final class Acts {
        static final int TRACED = 30;
        private static final int[] KIND_ABOVE = {-1, LIKE, LIKE, DOWN, BEAT, UP};

        final int[] trail = new int[TRACED];
        int ran = 0;
        /** Of the reduction that acts. */
        private int own = LIKE;

        static boolean isUnder(int kind, int top) {
            int at = kind;
            for (int i = 0; i < KINDS && at > LIKE && at != top; i++) {
                at = KIND_ABOVE[at];
            }
            return at == top;
        }

        void clear() {
            ran = 0;
        }

        int run(int kind, int act, int x) {
            own = kind;
            switch (act) {
                case 0:
                    return goes(this, own, x);
                case 1:
                    return pays(this, own, x);
                case 2:
                    return tells(this, own, x);
                default:
                    return 0;
            }
        }

        private void begin(int body) {
            if (ran < TRACED) {
                trail[ran] = body;
            }
            ran++;
        }

        /** goes() as it is found from a kind on; the kinds above a kind are few, so this ends soon. */
        private static int goes(Acts a, int from, int x) {
            switch (from) {
                case STRICT:
                    a.begin(60);
                    return goes(a, UP, x) ^ 12;
                case WEAK:
                    a.begin(50);
                    return goes(a, BEAT, x) - 5;
                case BEAT:
                case DOWN:
                    a.begin(20);
                    return goes(a, LIKE, x) * 2;
                default:
                    a.begin(10);
                    return x * 3 + a.own;
            }
        }

        private static int pays(Acts a, int from, int x) {
            switch (from) {
                case STRICT:
                    a.begin(61);
                    return pays(a, UP, x) - goes(a, a.own, 2);
                case UP:
                    a.begin(30);
                    return pays(a, LIKE, x) + 7;
                default:
                    a.begin(11);
                    return goes(a, a.own, x) - 2;
            }
        }

        private static int tells(Acts a, int from, int x) {
            switch (from) {
                case STRICT:
                case UP:
                    a.begin(31);
                    return -tells(a, LIKE, x);
                case WEAK:
                    a.begin(51);
                    return tells(a, BEAT, x) + pays(a, a.own, 1);
                case BEAT:
                    a.begin(40);
                    return tells(a, DOWN, x + 1);
                default:
                    a.begin(12);
                    return pays(a, a.own, x) ^ goes(a, a.own, a.own);
            }
        }
    }
}
