import java.util.ArrayList;
import java.util.List;
import java.util.Map;
import java.util.Random;

/** Random spaces, told by rows, by nesting, by texts and by draws, against Oracle. */
public final class OracleTests {
    private static final Random RANDOM = new Random(20261118);

    public static void main(String[] args) {
        for (int i = 0; i < 1500; i++) {
            aSpace();
        }
        for (int i = 0; i < 600; i++) {
            twoSpaces();
        }
        lists();
        for (int i = 0; i < 3000; i++) {
            faces();
            texts();
        }
        for (int i = 0; i < 300; i++) {
            draws();
        }
        acts();
        Check.end("OracleTests");
    }

    private static void due(String what, long got, long want) {
        Check.due(what, got, want);
    }

    /** A space of n points, nested by random pairs one by one. */
    private static Oracle nested(NestedPoints x, int space, int n) {
        x.points(space, n);
        boolean[][] pairs = new boolean[n][n];
        int had = n;
        int many = n == 0 ? 0 : RANDOM.nextInt(n * 2 + 1);
        boolean isPlain = RANDOM.nextInt(3) > 0;
        for (int i = 0; i < many; i++) {
            int p = RANDOM.nextInt(n);
            int q = RANDOM.nextInt(n);
            if (isPlain && (p + q * 5) % 7 < (q + p * 5) % 7) {
                int r = p;
                p = q;
                q = r;
            }
            pairs[p][q] = true;
            Oracle o = Oracle.closed(n, pairs);
            due("3 nest(" + p + ", " + q + ")", x.nest(space, p, q), o.pairs() - had);
            had = o.pairs();
        }
        return Oracle.closed(n, pairs);
    }

    private static void spaceDue(String what, NestedPoints x, int space, Oracle o) {
        due(what + ": points", x.told(space, 0), o.n);
        for (int p = 0; p < o.n; p++) {
            due(what + ": low of " + p, x.of(space, p, 0), o.low(p));
            due(what + ": high of " + p, x.of(space, p, 1), o.high(p));
        }
    }

    private static void aSpace() {
        NestedPoints x = new NestedPoints();
        int space = RANDOM.nextInt(6);
        Oracle o = nested(x, space, RANDOM.nextInt(9));
        x.keep();
        for (int what = 0; what < 7; what++) {
            due("6 told " + what, x.told(space, what), o.told(what));
        }
        for (int p = 0; p < o.n; p++) {
            int[] due = {o.low(p), o.high(p), o.height(p), o.alikeSet(p), o.partOf(p),
                (o.downBeat(p, o.all()) ? 1 : 0) + (o.upBeat(p, o.all()) ? 2 : 0) + (o.may(4, p, o.all()) ? 4 : 0)};
            for (int what = 0; what < 6; what++) {
                due("4 of " + p + " " + what, x.of(space, p, what), due[what]);
            }
            int q = RANDOM.nextInt(o.n);
            due("7 path", x.path(space, p, q), o.path(p, q));
        }
        for (int what = 0; what < 4; what++) {
            int set = RANDOM.nextInt(o.all() + 1);
            due("5 about " + set + " " + what, x.about(space, set, what), o.about(set, what));
        }
        reductions(x, space, o);
        chains(x, space, o);
        if (o.n <= 5) {
            due("16 form", x.form(space), o.form());
        }
        due("16 form of more than 5", o.n > 5 ? x.form(space) : -1, -1);
    }

    private static void reductions(NestedPoints x, int space, Oracle o) {
        int to = RANDOM.nextInt(6);
        for (int kind = 0; kind < 6; kind++) {
            int set = RANDOM.nextInt(o.all() + 1);
            int may = 0;
            for (int p : o.goers(kind, set)) {
                may |= 1 << p;
            }
            due("8 may " + kind, x.may(space, kind, set), may);
            for (int p = 0; p < o.n; p++) {
                due("9 price " + kind, x.price(space, kind, p), o.price(kind, p, o.all()));
            }
            for (int order = 0; order < 4; order++) {
                int left = o.left(o.all(), kind, order);
                due("10 left " + kind + " " + order, x.left(space, kind, order), left);
                due("11 reduce", x.reduce(space, kind, order, to), Integer.bitCount(left));
                spaceDue("11 reduce", x, to, o.part(left));
                x.again();
            }
            int[] ways = o.ways(kind);
            for (int what = 0; what < 4; what++) {
                due("12 ways " + kind + " " + what, x.ways(space, kind, what), ways[what]);
            }
        }
        due("13 retract", x.retract(space), o.retract());
        due("13 the retract tears nothing", x.tears(space, space, x.retract(space)), 0);
        due("13 it leaves the core as it is", x.fixed(space, x.retract(space)), x.left(space, 3, 0));
    }

    private static void chains(NestedPoints x, int space, Oracle o) {
        for (int k = 1; k <= 8; k++) {
            due("24 chains " + k, x.chains(space, k), o.chains(k));
        }
        due("25 euler", x.euler(space), o.euler());
        int byHoles = 1000;
        for (int k = 0; k <= 7; k++) {
            due("26 holes " + k, x.holes(space, k), o.n > 7 ? -1 : o.holes(k));
            byHoles += k % 2 == 0 ? x.holes(space, k) : -x.holes(space, k);
        }
        due("25 euler by holes", o.n > 7 ? o.euler() : byHoles, o.euler());
        int to = RANDOM.nextInt(6);
        List<Integer> sets = o.chains();
        due("27 divide", x.divide(space, to), sets.size() > 8 ? -2 : sets.size());
        if (sets.size() <= 8) {
            spaceDue("27 divide", x, to, Oracle.ofSets(sets));
        }
        x.again();
        spaceDue("47 again", x, space, o);
    }

    private static void twoSpaces() {
        NestedPoints x = new NestedPoints();
        int n = RANDOM.nextInt(7);
        Oracle a = nested(x, 0, n);
        Oracle c = nested(x, 1, RANDOM.nextInt(4) == 0 ? n : RANDOM.nextInt(5));
        if (RANDOM.nextBoolean()) {
            List<int[]> all = Oracle.permutations(n);
            c = a.renumbered(all.get(RANDOM.nextInt(all.size())));
            copyOver(x, c);
        }
        x.keep();
        due("14 homotopic", x.homotopic(0, 1), a.core().renumberings(c.core()).isEmpty() ? 0 : 1);
        List<int[]> same = a.renumberings(c);
        due("15 same", x.same(0, 1, -1), same.size());
        for (int p = 0; p < n; p++) {
            due("15 image of " + p, x.same(0, 1, p), same.isEmpty() ? -3 : same.get(0)[p]);
        }
        maps(x, a, c);
        for (int what = 0; what < 7; what++) {
            Oracle o = Oracle.made(what, a, c);
            int to = RANDOM.nextInt(6);
            due("29 made " + what, x.made(what, 0, what > 0 && what < 4 ? 1 : RANDOM.nextInt(), to), o == null ? -2 : o.n);
            if (o != null) {
                spaceDue("29 made " + what, x, to, o);
            }
            x.again();
        }
        int set = RANDOM.nextInt(a.all() + 1);
        due("30 part", x.part(0, set, 0), Integer.bitCount(set));
        spaceDue("30 part", x, 0, a.part(set));
    }

    private static void copyOver(NestedPoints x, Oracle c) {
        x.sheet(0, RANDOM.nextInt(2), 20);
        for (int p = 0; p < c.n; p++) {
            x.put(0, 5 + p, c.low(p) | RANDOM.nextInt() << c.n);
        }
        due("40 take", x.take(0, 5, c.n, 1), c.told(1));
        spaceDue("40 take", x, 1, c);
    }

    private static void maps(NestedPoints x, Oracle a, Oracle c) {
        for (int i = 0; i < 5; i++) {
            int map = 0;
            for (int p = 0; p < a.n; p++) {
                map = map * 8 + RANDOM.nextInt(RANDOM.nextInt(9) == 0 ? 8 : Math.max(1, c.n));
            }
            map += RANDOM.nextInt(9) == 0 ? 1 << 3 * a.n : 0;
            due("20 tears " + map, x.tears(0, 1, map), a.tears(c, map));
        }
        if (a.n > 4) {
            due("21 maps of six", a.n > 5 ? x.maps(0, 1) : -1, -1);
            due("22 fence of many", x.fence(0, 1, 0, 0), -1);
            return;
        }
        List<Integer> whole = a.maps(c);
        due("21 maps", x.maps(0, 1), whole.size());
        for (int i = 0; i < 8 && a.n <= 3 && !whole.isEmpty(); i++) {
            int f = whole.get(RANDOM.nextInt(whole.size()));
            int g = whole.get(RANDOM.nextInt(whole.size()));
            due("22 fence " + f + " " + g, x.fence(0, 1, f, g), a.fence(c, f, g));
        }
        List<Integer> own = a.maps(a);
        for (int i = 0; i < 5; i++) {
            int f = own.get(RANDOM.nextInt(own.size()));
            int fixed = 0;
            for (int p = 0; p < a.n; p++) {
                fixed |= a.images(a, f)[p] == p ? 1 << p : 0;
            }
            due("23 fixed", x.fixed(0, f), fixed);
        }
    }

    private static void lists() {
        for (int n = 0; n <= 4; n++) {
            NestedPoints x = new NestedPoints();
            for (int plain = 0; plain < 2; plain++) {
                Map<Integer, Integer> forms = Oracle.forms(n, plain == 1);
                int all = 0;
                int i = 0;
                for (Map.Entry<Integer, Integer> form : forms.entrySet()) {
                    due("19 listed " + i, x.listed(n, plain, i, 0), form.getKey());
                    due("19 listed " + i, x.listed(n, plain, i, 1), form.getValue());
                    all += form.getValue();
                    i++;
                }
                due("18 list", x.list(n, plain), all);
                due("18 list", x.list(n, 2 + plain), forms.size());
                due("19 no more", x.listed(n, plain, i, 0), -3);
            }
            codes(n);
        }
    }

    private static void codes(int n) {
        NestedPoints x = new NestedPoints();
        for (int i = 0; i < 120; i++) {
            int code = RANDOM.nextInt(1 << n * (n - 1));
            Oracle o = Oracle.byCode(n, code);
            int had = x.told(2, 0);
            due("17 byCode", x.byCode(2, n, code), o == null ? -1 : had);
            if (o != null) {
                spaceDue("17 byCode", x, 2, o);
                due("16 form", x.form(2), o.form());
            }
        }
    }

    private static void faces() {
        NestedPoints x = new NestedPoints();
        int n = 1 + RANDOM.nextInt(8);
        int[] facets = new int[n];
        int i = RANDOM.nextInt(30);
        x.sheet(1, 1, i + n);
        boolean isBad = false;
        for (int j = 0; j < n; j++) {
            facets[j] = RANDOM.nextInt(25) == 0 ? RANDOM.nextInt(20) : 1 << RANDOM.nextInt(4) | 1 << RANDOM.nextInt(4);
            isBad |= facets[j] < 1 || facets[j] > 15;
            x.put(1, i + j, facets[j]);
        }
        List<Integer> sets = Oracle.faces(facets);
        int due = isBad ? -1 : sets.size() > 8 ? -2 : sets.size();
        due("28 faces", x.faces(1, i, n, 4), due);
        if (due > 0) {
            spaceDue("28 faces", x, 4, Oracle.ofSets(sets));
        }
    }

    /** Mostly sound texts with a sign changed, put in or taken out here and there. */
    private static void texts() {
        int n = RANDOM.nextInt(10);
        StringBuilder text = new StringBuilder().append(n);
        int items = RANDOM.nextInt(6);
        for (int i = 0; i < items; i++) {
            text.append(";").append(RANDOM.nextInt(n + 1)).append(RANDOM.nextInt(4) == 0 ? "=" : ">").append(RANDOM.nextInt(n + 1));
            while (RANDOM.nextInt(3) == 0) {
                text.append(",").append(RANDOM.nextInt(n + 1));
            }
        }
        String signs = "0123456789;>=,  <a\u00ff";
        for (int i = RANDOM.nextInt(4); i > 1; i--) {
            text.setCharAt(RANDOM.nextInt(text.length()), signs.charAt(RANDOM.nextInt(signs.length())));
        }
        for (int i = RANDOM.nextInt(5); i > 1; i--) {
            text.insert(RANDOM.nextInt(text.length() + 1), " ");
        }
        text.setLength(Math.min(text.length(), 100));
        if (RANDOM.nextInt(5) == 0) {
            text.setLength(RANDOM.nextInt(text.length() + 1));
        }
        byte[] bytes = new byte[text.length()];
        for (int i = 0; i < bytes.length; i++) {
            bytes[i] = (byte) text.charAt(i);
        }
        int[] size = new int[1];
        boolean[][] pairs = new boolean[8][8];
        int fault = Oracle.fault(bytes, size, pairs);
        NestedPoints x = new NestedPoints();
        Check.feed(x, text.toString());
        due("31 fed", x.many(3), text.length());
        due("32 <" + text + ">", x.space(0), fault < 0 ? size[0] : -100 - fault);
        if (fault < 0) {
            spaceDue("32 <" + text + ">", x, 0, Oracle.closed(size[0], pairs));
        }
        due("32 used up", x.many(3), 0);
    }

    private static void draws() {
        NestedPoints x = new NestedPoints();
        int z = RANDOM.nextInt();
        x.seed(z);
        int n = RANDOM.nextInt(9);
        int v = RANDOM.nextInt(101);
        boolean[][] pairs = new boolean[n][n];
        for (int p = 0; p < n; p++) {
            for (int q = 0; q < n; q++) {
                if (p != q) {
                    z = z * 1103515245 + 12345;
                    pairs[p][q] = (z >>> 16) % 100 < v;
                }
            }
        }
        Oracle o = Oracle.closed(n, pairs);
        due("34 draw", x.draw(3, n, v), o.told(1));
        spaceDue("34 draw", x, 3, o);
        due("34 z", x.seed(0), z);
    }

    private static void acts() {
        int[] numbers = {0, 1, 2, 5, -1, -7, 1000, Integer.MAX_VALUE, Integer.MIN_VALUE, 715827883};
        for (int kind = 0; kind < 6; kind++) {
            for (int act = 0; act < 3; act++) {
                for (int v : numbers) {
                    Oracle.Like thing = Oracle.reduction(kind);
                    int want = act == 0 ? thing.goes(v) : act == 1 ? thing.pays(v) : thing.tells(v);
                    NestedPoints x = new NestedPoints();
                    x.shelf(1, 0, kind);
                    due("43 kind " + kind + " act " + act + " " + v, x.act(1, act, v), want);
                    due("45 bodies", x.many(4), thing.trace.size());
                    List<Integer> trace = new ArrayList<>();
                    for (int i = 0; i < thing.trace.size(); i++) {
                        trace.add(x.trace(i));
                    }
                    due("44 trace " + trace + " and " + thing.trace, trace.equals(thing.trace) ? 1 : 0, 1);
                }
            }
        }
    }
}
