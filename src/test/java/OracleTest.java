import java.util.ArrayList;
import java.util.Arrays;
import java.util.HashMap;
import java.util.List;
import java.util.Map;
import java.util.Random;
import java.util.TreeSet;

/**
 * Long runs of calls, the same ones each time, on the program and on a second one that follows the
 * document's words by trial alone (no shortcut is taken in it that the words do not take).
 */
public final class OracleTest {
    private static final int NONE = -1, BAD = -2, ZERO = -3;
    private static final int[] QS = {2, 3, 4, 5, 7, 8, 9};
    private static final int MOST_CALLS = 512;
    private static int calls = 0;
    private static int wrong = 0;

    /** The fields, points and lines of one q, made once. */
    static final class Geometry {
        final int q;
        final int n;
        final int[][] sum;
        final int[][] product;
        final int[][] points;
        final boolean[][] on;
        final Map<String, List<Integer>> greatest = new HashMap<>();
        final Map<String, int[]> through = new HashMap<>();

        Geometry(int q) {
            this.q = q;
            int p = q == 4 || q == 8 ? 2 : q == 9 ? 3 : q;
            int[] top = q == 4 ? new int[] {1, 1} : q == 8 ? new int[] {1, 1, 0}
                    : q == 9 ? new int[] {2, 0} : new int[] {0};
            sum = new int[q][q];
            product = new int[q][q];
            for (int a = 0; a < q; a++) {
                for (int b = 0; b < q; b++) {
                    sum[a][b] = addDigits(a, b, p, top.length);
                    product[a][b] = multiplyDigits(a, b, p, top);
                }
            }
            List<int[]> found = new ArrayList<>();
            for (int x = 0; x < q; x++) {
                for (int y = 0; y < q; y++) {
                    for (int z = 0; z < q; z++) {
                        int first = x != 0 ? x : y != 0 ? y : z;
                        if (first == 1) {
                            found.add(new int[] {x, y, z});
                        }
                    }
                }
            }
            points = found.toArray(new int[0][]);
            n = points.length;
            on = new boolean[n][n];
            for (int i = 0; i < n; i++) {
                for (int j = 0; j < n; j++) {
                    on[i][j] = add(mul(points[i][0], points[j][0]), mul(points[i][1], points[j][1]),
                            mul(points[i][2], points[j][2])) == 0;
                }
            }
        }

        private static int addDigits(int a, int b, int p, int digits) {
            int result = 0;
            int place = 1;
            for (int i = 0; i < digits; i++) {
                result += (a / place % p + b / place % p) % p * place;
                place *= p;
            }
            return result;
        }

        private static int multiplyDigits(int a, int b, int p, int[] top) {
            int d = top.length;
            if (d == 1) {
                return a * b % p;
            }
            int[] terms = new int[2 * d - 1];
            int placeA = 1;
            for (int i = 0; i < d; i++) {
                int placeB = 1;
                for (int j = 0; j < d; j++) {
                    terms[i + j] += (a / placeA % p) * (b / placeB % p);
                    placeB *= p;
                }
                placeA *= p;
            }
            for (int i = 2 * d - 2; i >= d; i--) {
                for (int j = 0; j < d; j++) {
                    terms[i - d + j] += terms[i] * top[j];
                }
                terms[i] = 0;
            }
            int result = 0;
            for (int i = d - 1; i >= 0; i--) {
                result = result * p + terms[i] % p;
            }
            return result;
        }

        boolean isNumber(int... many) {
            for (int a : many) {
                if (a < 0 || a >= q) {
                    return false;
                }
            }
            return true;
        }

        boolean isPoint(int... many) {
            for (int p : many) {
                if (p < 0 || p >= n) {
                    return false;
                }
            }
            return true;
        }

        int add(int... many) {
            int all = 0;
            for (int a : many) {
                all = sum[all][a];
            }
            return all;
        }

        int mul(int... many) {
            int all = 1;
            for (int a : many) {
                all = product[all][a];
            }
            return all;
        }

        int sub(int a, int b) {
            for (int c = 0; c < q; c++) {
                if (sum[c][b] == a) {
                    return c;
                }
            }
            throw new IllegalStateException("no difference");
        }

        int div(int a, int b) {
            for (int c = 0; c < q; c++) {
                if (b != 0 && product[c][b] == a) {
                    return c;
                }
            }
            throw new IllegalStateException("no quotient");
        }

        int[] multiple(int k, int[] v) {
            int[] result = v.clone();
            for (int i = 0; i < v.length; i++) {
                result[i] = mul(k, v[i]);
            }
            return result;
        }

        int[] told(int[] v) {
            for (int k = 1; k < q; k++) {
                int[] w = multiple(k, v);
                int i = 0;
                while (w[i] == 0) {
                    i++;
                }
                if (w[i] == 1) {
                    return w;
                }
            }
            throw new IllegalStateException("no multiple");
        }

        int numberOf(int[] v) {
            if (v[0] == 0 && v[1] == 0 && v[2] == 0) {
                return ZERO;
            }
            int[] w = told(v);
            for (int i = 0; i < n; i++) {
                if (Arrays.equals(points[i], w)) {
                    return i;
                }
            }
            throw new IllegalStateException("no point");
        }

        boolean onOneLine(int... many) {
            for (int l = 0; l < n; l++) {
                boolean all = true;
                for (int p : many) {
                    all &= on[p][l];
                }
                if (all) {
                    return true;
                }
            }
            return false;
        }

        boolean isFrame(int a, int b, int c, int d) {
            return !onOneLine(a, b, c) && !onOneLine(a, b, d) && !onOneLine(a, c, d)
                    && !onOneLine(b, c, d);
        }

        int onLine(Iterable<Integer> set, int l) {
            int size = 0;
            for (int p : set) {
                if (on[p][l]) {
                    size++;
                }
            }
            return size;
        }

        boolean isArc(Iterable<Integer> set) {
            for (int l = 0; l < n; l++) {
                if (onLine(set, l) > 2) {
                    return false;
                }
            }
            return true;
        }

        boolean blocks(Iterable<Integer> set) {
            for (int l = 0; l < n; l++) {
                if (onLine(set, l) == 0) {
                    return false;
                }
            }
            return true;
        }

        TreeSet<Integer> closure(TreeSet<Integer> set) {
            TreeSet<Integer> all = new TreeSet<>(set);
            boolean grew = true;
            while (grew) {
                grew = false;
                for (int l = 0; l < n; l++) {
                    for (int m = 0; m < l; m++) {
                        if (onLine(all, l) >= 2 && onLine(all, m) >= 2) {
                            for (int p = 0; p < n; p++) {
                                if (on[p][l] && on[p][m]) {
                                    grew |= all.add(p);
                                }
                            }
                        }
                    }
                }
            }
            return all;
        }

        /** The added points of the greatest arc, rising, by going through all arcs. */
        List<Integer> greatestAdded(TreeSet<Integer> set) {
            List<Integer> known = greatest.get(set.toString());
            if (known == null) {
                List<List<Integer>> best = new ArrayList<>();
                best.add(new ArrayList<>());
                tryAll(new ArrayList<>(set), new ArrayList<>(), 0, best);
                known = best.get(0);
                greatest.put(set.toString(), known);
            }
            return known;
        }

        private void tryAll(List<Integer> all, List<Integer> added, int from, List<List<Integer>> best) {
            if (isBetter(added, best.get(0))) {
                best.set(0, new ArrayList<>(added));
            }
            for (int p = from; p < n; p++) {
                if (!all.contains(p) && canCome(all, p)) {
                    all.add(p);
                    added.add(p);
                    tryAll(all, added, p + 1, best);
                    all.remove(all.size() - 1);
                    added.remove(added.size() - 1);
                }
            }
        }

        boolean canCome(List<Integer> all, int p) {
            for (int l = 0; l < n; l++) {
                if (on[p][l] && onLine(all, l) >= 2) {
                    return false;
                }
            }
            return true;
        }

        private static boolean isBetter(List<Integer> a, List<Integer> b) {
            if (a.size() != b.size()) {
                return a.size() > b.size();
            }
            for (int i = 0; i < a.size(); i++) {
                if (!a.get(i).equals(b.get(i))) {
                    return a.get(i) < b.get(i);
                }
            }
            return false;
        }

        boolean onCurve(int[] c, int[] v) {
            return add(mul(c[0], v[0], v[0]), mul(c[1], v[1], v[1]), mul(c[2], v[2], v[2]),
                    mul(c[3], v[1], v[2]), mul(c[4], v[0], v[2]), mul(c[5], v[0], v[1])) == 0;
        }

        /** The one curve of those with a first number of 1 that has the five points. */
        int[] curveThrough(TreeSet<Integer> set) {
            int[] known = through.get(set.toString());
            if (known != null) {
                return known;
            }
            int[] c = new int[6];
            int all = q * q * q * q * q * q;
            for (int code = 1; code < all; code++) {
                int rest = code;
                for (int k = 5; k >= 0; k--) {
                    c[k] = rest % q;
                    rest /= q;
                }
                int first = 0;
                while (c[first] == 0) {
                    first++;
                }
                boolean fits = c[first] == 1;
                for (int p : set) {
                    fits = fits && onCurve(c, points[p]);
                }
                if (fits) {
                    if (known != null) {
                        throw new IllegalStateException("two curves");
                    }
                    known = c.clone();
                }
            }
            through.put(set.toString(), known);
            return known;
        }
    }

    private static final Map<Integer, Geometry> GEOMETRIES = new HashMap<>();

    static Geometry geometry(int q) {
        return GEOMETRIES.computeIfAbsent(q, Geometry::new);
    }

    /** The second program. */
    static final class Oracle {
        Geometry g = geometry(2);
        TreeSet<Integer> set = new TreeSet<>();
        int[] m = {1, 0, 0, 0, 1, 0, 0, 0, 1};
        boolean[][] table = new boolean[1][1];

        int begin(int q) {
            if (Arrays.binarySearch(QS, q) < 0) {
                return BAD;
            }
            int before = g.q;
            g = geometry(q);
            set = new TreeSet<>();
            m = new int[] {1, 0, 0, 0, 1, 0, 0, 0, 1};
            return before;
        }

        int reckon(int how, int a, int b) {
            if (how < 0 || how > 3 || !g.isNumber(a, b)) {
                return BAD;
            }
            if (how == 3 && b == 0) {
                return ZERO;
            }
            return how == 0 ? g.add(a, b) : how == 1 ? g.sub(a, b) : how == 2 ? g.mul(a, b) : g.div(a, b);
        }

        int triple(int p, int k) {
            return !g.isPoint(p) || k < 0 || k > 2 ? BAD : g.points[p][k];
        }

        int number(int x, int y, int z) {
            return !g.isNumber(x, y, z) ? BAD : g.numberOf(new int[] {x, y, z});
        }

        int on(int p, int l) {
            return !g.isPoint(p, l) ? BAD : g.on[p][l] ? 1 : 0;
        }

        int join(int p, int r) {
            if (!g.isPoint(p, r) || p == r) {
                return BAD;
            }
            for (int l = 0; l < g.n; l++) {
                if (g.on[p][l] && g.on[r][l]) {
                    return l;
                }
            }
            throw new IllegalStateException("no line");
        }

        static int pick(Iterable<Integer> set, int k) {
            int i = 0;
            for (int p : set) {
                if (i++ == k) {
                    return p;
                }
            }
            return NONE;
        }

        int row(int l, int k) {
            if (!g.isPoint(l)) {
                return BAD;
            }
            TreeSet<Integer> row = new TreeSet<>();
            for (int p = 0; p < g.n; p++) {
                if (g.on[p][l]) {
                    row.add(p);
                }
            }
            return pick(row, k);
        }

        int put(int p, boolean in) {
            if (!g.isPoint(p)) {
                return BAD;
            }
            return (in ? !set.add(p) : set.remove(p)) ? 1 : 0;
        }

        int count(int what) {
            switch (what) {
                case 0: return g.q;
                case 1: return g.n;
                case 2: return set.size();
                case 3: return g.blocks(set) ? without() : 0;
                case 4: return g.closure(set).size();
                case 5: return g.isArc(set) ? newcomers() : 0;
                case 6: return table.length;
                case 7: return marks();
                default: return BAD;
            }
        }

        private int without() {
            int size = 0;
            for (int p : set) {
                TreeSet<Integer> rest = new TreeSet<>(set);
                rest.remove(p);
                size += g.blocks(rest) ? 1 : 0;
            }
            return size;
        }

        private int newcomers() {
            int size = 0;
            for (int p = 0; p < g.n; p++) {
                TreeSet<Integer> more = new TreeSet<>(set);
                if (more.add(p) && g.isArc(more)) {
                    size++;
                }
            }
            return size;
        }

        private int marks() {
            int size = 0;
            for (boolean[] line : table) {
                for (boolean mark : line) {
                    size += mark ? 1 : 0;
                }
            }
            return size;
        }

        int meets(int k) {
            int size = 0;
            for (int l = 0; l < g.n; l++) {
                size += g.onLine(set, l) == k ? 1 : 0;
            }
            return size;
        }

        int is(int what) {
            switch (what) {
                case 0: return g.isArc(set) ? 1 : 0;
                case 1: return g.isArc(set) && newcomers() == 0 ? 1 : 0;
                case 2: return g.blocks(set) ? 1 : 0;
                case 3: return g.closure(set).equals(set) ? 1 : 0;
                default: return BAD;
            }
        }

        int greatest(int k) {
            if (g.q > 5) {
                return BAD;
            }
            if (!g.isArc(set)) {
                return NONE;
            }
            TreeSet<Integer> arc = new TreeSet<>(set);
            arc.addAll(g.greatestAdded(set));
            return k == -1 ? arc.size() : pick(arc, k);
        }

        int curve(int a, int b, int c, int d, int e, int f) {
            if (!g.isNumber(a, b, c, d, e, f)) {
                return BAD;
            }
            if ((a | b | c | d | e | f) == 0) {
                return ZERO;
            }
            set = new TreeSet<>();
            for (int p = 0; p < g.n; p++) {
                if (g.onCurve(new int[] {a, b, c, d, e, f}, g.points[p])) {
                    set.add(p);
                }
            }
            return set.size();
        }

        int through(int k) {
            if (k < 0 || k > 5) {
                return BAD;
            }
            if (set.size() != 5) {
                return NONE;
            }
            for (int l = 0; l < g.n; l++) {
                if (g.onLine(set, l) >= 4) {
                    return NONE;
                }
            }
            return g.curveThrough(set)[k];
        }

        int entry(int k, int v) {
            if (k < 0 || k > 8 || !g.isNumber(v)) {
                return BAD;
            }
            int before = m[k];
            m[k] = v;
            return before;
        }

        int determinant() {
            int a = g.mul(m[0], g.sub(g.mul(m[4], m[8]), g.mul(m[5], m[7])));
            int b = g.mul(m[1], g.sub(g.mul(m[3], m[8]), g.mul(m[5], m[6])));
            int c = g.mul(m[2], g.sub(g.mul(m[3], m[7]), g.mul(m[4], m[6])));
            return g.add(g.sub(a, b), c);
        }

        private int[] apply(int[] map, int[] v) {
            int[] to = new int[3];
            for (int i = 0; i < 3; i++) {
                to[i] = g.add(g.mul(map[3 * i], v[0]), g.mul(map[3 * i + 1], v[1]),
                        g.mul(map[3 * i + 2], v[2]));
            }
            return to;
        }

        int image(int p) {
            return !g.isPoint(p) ? BAD : g.numberOf(apply(m, g.points[p]));
        }

        int order() {
            if (determinant() == 0) {
                return ZERO;
            }
            int[] to = new int[g.n];
            int[] now = new int[g.n];
            for (int p = 0; p < g.n; p++) {
                to[p] = image(p);
                now[p] = p;
            }
            for (int times = 1; ; times++) {
                boolean back = true;
                for (int p = 0; p < g.n; p++) {
                    now[p] = to[now[p]];
                    back &= now[p] == p;
                }
                if (back) {
                    return times;
                }
            }
        }

        int fixed() {
            int size = 0;
            for (int p = 0; p < g.n; p++) {
                size += image(p) == p ? 1 : 0;
            }
            return size;
        }

        /** First second, then first. */
        private int[] compose(int[] first, int[] second) {
            int[] both = new int[9];
            for (int j = 0; j < 3; j++) {
                int[] v = apply(first, apply(second, new int[] {j == 0 ? 1 : 0, j == 1 ? 1 : 0, j == 2 ? 1 : 0}));
                for (int i = 0; i < 3; i++) {
                    both[3 * i + j] = v[i];
                }
            }
            return both;
        }

        /** The inverse is the map done once less often than its order. */
        int invert() {
            if (determinant() == 0) {
                return ZERO;
            }
            int times = order() - 1;
            int[] power = {1, 0, 0, 0, 1, 0, 0, 0, 1};
            for (int i = 0; i < times; i++) {
                power = compose(m, power);
            }
            m = g.told(power);
            return 1;
        }

        int move() {
            TreeSet<Integer> there = new TreeSet<>();
            for (int p : set) {
                int to = image(p);
                if (to != ZERO) {
                    there.add(to);
                }
            }
            set = there;
            return set.size();
        }

        private int[] framing(int a, int b, int c, int d) {
            for (int u = 1; u < g.q; u++) {
                for (int v = 1; v < g.q; v++) {
                    for (int w = 1; w < g.q; w++) {
                        int[] map = new int[9];
                        for (int i = 0; i < 3; i++) {
                            map[3 * i] = g.mul(u, g.points[a][i]);
                            map[3 * i + 1] = g.mul(v, g.points[b][i]);
                            map[3 * i + 2] = g.mul(w, g.points[c][i]);
                        }
                        if (g.numberOf(apply(map, new int[] {1, 1, 1})) == d) {
                            return g.told(map);
                        }
                    }
                }
            }
            throw new IllegalStateException("no map");
        }

        int frame(int a, int b, int c, int d) {
            if (!g.isPoint(a, b, c, d)) {
                return BAD;
            }
            if (!g.isFrame(a, b, c, d)) {
                return NONE;
            }
            m = framing(a, b, c, d);
            return 1;
        }

        int behind(int a, int b, int c, int d) {
            if (!g.isPoint(a, b, c, d)) {
                return BAD;
            }
            if (!g.isFrame(a, b, c, d)) {
                return NONE;
            }
            if (determinant() == 0) {
                return ZERO;
            }
            m = g.told(compose(m, framing(a, b, c, d)));
            return 1;
        }

        /** The two numbers that make a triple of two others. */
        private int[] parts(int p, int a, int b) {
            for (int u = 0; u < g.q; u++) {
                for (int v = 0; v < g.q; v++) {
                    boolean fits = true;
                    for (int i = 0; i < 3; i++) {
                        fits &= g.add(g.mul(u, g.points[a][i]), g.mul(v, g.points[b][i])) == g.points[p][i];
                    }
                    if (fits) {
                        return new int[] {u, v};
                    }
                }
            }
            throw new IllegalStateException("no parts");
        }

        int ratio(int a, int b, int c, int d) {
            if (!g.isPoint(a, b, c, d)) {
                return BAD;
            }
            if (a == b || b == c || a == c || !g.onOneLine(a, b, c, d)) {
                return NONE;
            }
            int[] uv = parts(c, a, b);
            int[] st = parts(d, a, b);
            return st[1] == 0 ? g.q : g.div(g.mul(st[0], uv[1]), g.mul(st[1], uv[0]));
        }

        int table(int w) {
            if (w < 1 || w > 13) {
                return BAD;
            }
            int before = table.length;
            table = new boolean[w][w];
            return before;
        }

        int mark(int l, int p, boolean on) {
            if (l < 0 || p < 0 || l >= table.length || p >= table.length) {
                return BAD;
            }
            int before = table[l][p] ? 1 : 0;
            table[l][p] = on;
            return before;
        }

        int flaw() {
            int w = table.length;
            for (int kind = 1000; kind <= 2000; kind += 1000) {
                for (int a = 0; a < w; a++) {
                    for (int b = a + 1; b < w; b++) {
                        int both = 0;
                        for (int k = 0; k < w; k++) {
                            boolean together = kind == 1000 ? table[a][k] && table[b][k] : table[k][a] && table[k][b];
                            both += together ? 1 : 0;
                        }
                        if (both != 1) {
                            return kind + 20 * a + b;
                        }
                    }
                }
            }
            for (int four = 0; four < 1 << w; four++) {
                if (Integer.bitCount(four) == 4 && isTableFrame(four)) {
                    return 0;
                }
            }
            return 3000;
        }

        private boolean isTableFrame(int four) {
            for (boolean[] line : table) {
                int size = 0;
                for (int p = 0; p < table.length; p++) {
                    size += line[p] && (four >> p & 1) == 1 ? 1 : 0;
                }
                if (size >= 3) {
                    return false;
                }
            }
            return true;
        }

        int told() {
            if (g.q > 3) {
                return BAD;
            }
            table = new boolean[g.n][g.n];
            for (int l = 0; l < g.n; l++) {
                for (int p = 0; p < g.n; p++) {
                    table[l][p] = g.on[p][l];
                }
            }
            return g.n;
        }
    }

    private static FinitePlanes x;
    private static Oracle y;
    private static Random dice;
    private static int seed;
    private static int used;

    /** What an object answers after its 512th call is free: so each run has a new one. */
    private static void renew(int q) {
        used = 0;
        x = new FinitePlanes();
        y = new Oracle();
        same("begin", x.begin(q), y.begin(q));
    }

    private static void same(String call, int got, int want) {
        calls++;
        used++;
        if (got != want) {
            wrong++;
            if (wrong <= 20) {
                System.out.println("seed " + seed + ", q " + y.g.q + ": " + call + " answered " + got + ", due is " + want);
            }
        }
    }

    /** Mostly 0 .. bound - 1, sometimes just outside, seldom far outside. */
    private static int about(int bound) {
        int way = dice.nextInt(40);
        if (way == 0) {
            int[] far = {Integer.MAX_VALUE, Integer.MIN_VALUE, -1000, 1000};
            return far[dice.nextInt(4)];
        }
        if (way == 1) {
            return dice.nextBoolean() ? -1 : bound;
        }
        return dice.nextInt(bound);
    }

    private static int point() {
        return about(y.g.n);
    }

    private static int num() {
        return about(y.g.q);
    }

    /** Tells all of the state that can be told. */
    private static void compareState() {
        for (int what = -1; what <= 8; what++) {
            same("count(" + what + ")", x.count(what), y.count(what));
        }
        for (int what = -1; what <= 4; what++) {
            same("is(" + what + ")", x.is(what), y.is(what));
        }
        for (int k = 0; k < 9; k++) {
            same("entry", x.entry(k, y.m[k]), y.m[k]);
        }
        for (int k = -1; k <= y.set.size(); k++) {
            same("member(" + k + ")", x.member(k), Oracle.pick(y.set, k));
        }
        for (int l = 0; l < y.table.length; l++) {
            for (int p = 0; p < y.table.length && used < MOST_CALLS; p++) {
                same("mark(" + l + ", " + p + ")", x.mark(l, p, y.table[l][p]), y.table[l][p] ? 1 : 0);
            }
        }
    }

    private static void anyCall() {
        int p = point();
        int r = point();
        int s = point();
        int t = point();
        int a = num();
        int b = num();
        int c = num();
        boolean yes = dice.nextInt(3) > 0;
        switch (dice.nextInt(30)) {
            case 0: same("triple", x.triple(p, r % 4), y.triple(p, r % 4)); break;
            case 1: same("number", x.number(a, b, c), y.number(a, b, c)); break;
            case 2: same("on", x.on(p, r), y.on(p, r)); break;
            case 3: same("join", x.join(p, r), y.join(p, r)); break;
            case 4: int k = about(y.g.q + 1);
                same("row", x.row(p, k), y.row(p, k)); break;
            case 5: case 6: case 7: same("put", x.put(p, yes), y.put(p, yes)); break;
            case 8: same("meets", x.meets(a), y.meets(a)); break;
            case 9: int g = about(8) - 1;
                same("greatest", x.greatest(g), y.greatest(g)); break;
            case 10: same("closure", x.closure(p), Oracle.pick(y.g.closure(y.set), p)); break;
            case 11: int d = num(); int e = num(); int f = num();
                if (dice.nextInt(3) == 0) {
                    same("curve", x.curve(a, b, c, d, e, f), y.curve(a, b, c, d, e, f));
                }
                break;
            case 12: aFewPoints(5); break;
            case 13: case 14: int i = about(9);
                same("entry", x.entry(i, a), y.entry(i, a)); break;
            case 15: same("determinant", x.determinant(), y.determinant()); break;
            case 16: same("image", x.image(p), y.image(p)); break;
            case 17: same("order", x.order(), y.order()); break;
            case 18: same("fixed", x.fixed(), y.fixed()); break;
            case 19: same("invert", x.invert(), y.invert()); break;
            case 20: same("move", x.move(), y.move()); break;
            case 21: same("frame", x.frame(p, r, s, t), y.frame(p, r, s, t)); break;
            case 22: same("behind", x.behind(p, r, s, t), y.behind(p, r, s, t)); break;
            case 23: ratioOnLine(p); break;
            case 24: same("ratio", x.ratio(p, r, s, t), y.ratio(p, r, s, t)); break;
            case 25: tableCall(); break;
            case 26: int how = about(4);
                same("reckon", x.reckon(how, a, b), y.reckon(how, a, b)); break;
            case 27: aFewPoints(dice.nextInt(5)); break;
            case 28: int what = dice.nextInt(8);
                same("count " + what, x.count(what), y.count(what)); break;
            default: int w = dice.nextInt(4);
                same("is " + w, x.is(w), y.is(w)); break;
        }
    }

    /** Other points come into the set, so that small sets and curves through five are met often. */
    private static void aFewPoints(int size) {
        for (int p = 0; p < y.g.n; p++) {
            if (y.set.contains(p)) {
                same("put", x.put(p, false), y.put(p, false));
            }
        }
        for (int i = 0; i < size; i++) {
            int p = dice.nextInt(y.g.n);
            same("put", x.put(p, true), y.put(p, true));
        }
        for (int k = -1; k <= 6; k++) {
            same("through(" + k + ") of " + y.set, x.through(k), y.through(k));
            same("greatest(" + k + ") of " + y.set, x.greatest(k), y.greatest(k));
        }
        for (int k = -1; k <= y.g.q + 2; k++) {
            same("meets(" + k + ")", x.meets(k), y.meets(k));
        }
    }

    private static void ratioOnLine(int l) {
        if (!y.g.isPoint(l)) {
            return;
        }
        int a = y.row(l, dice.nextInt(y.g.q + 1));
        int b = y.row(l, dice.nextInt(y.g.q + 1));
        int c = y.row(l, dice.nextInt(y.g.q + 1));
        int d = y.row(l, dice.nextInt(y.g.q + 1));
        same("ratio(" + a + ", " + b + ", " + c + ", " + d + ")", x.ratio(a, b, c, d), y.ratio(a, b, c, d));
    }

    private static void tableCall() {
        switch (dice.nextInt(4)) {
            case 0: int w = about(14);
                same("table", x.table(w), y.table(w)); break;
            case 1: same("told", x.told(), y.told()); break;
            default: break;
        }
        same("flaw", x.flaw(), y.flaw());
        int l = about(y.table.length);
        int p = about(y.table.length);
        boolean on = dice.nextBoolean();
        same("mark", x.mark(l, p, on), y.mark(l, p, on));
        same("flaw", x.flaw(), y.flaw());
    }

    private static void run(int number, int q) {
        seed = number;
        dice = new Random(number);
        renew(q);
        for (int i = 0; i < 300 && used < MOST_CALLS / 2; i++) {
            anyCall();
            if (dice.nextInt(100) == 0) {
                int other = dice.nextInt(2) == 0 ? about(11) : QS[dice.nextInt(7)];
                same("begin(" + other + ")", x.begin(other), y.begin(other));
            }
        }
        compareState();
    }

    private static void allOfTheField(int q) {
        for (int a = -1; a <= q; a++) {
            renew(q);
            for (int b = -1; b <= q; b++) {
                for (int how = -1; how <= 4; how++) {
                    same("reckon(" + how + ", " + a + ", " + b + ")", x.reckon(how, a, b), y.reckon(how, a, b));
                }
                for (int c = -1; c <= q; c++) {
                    same("number(" + a + ", " + b + ", " + c + ")", x.number(a, b, c), y.number(a, b, c));
                }
            }
        }
    }

    private static void allOfThePlane(int q) {
        for (int p = -1; p <= q * q + q + 1; p++) {
            renew(q);
            for (int k = -1; k <= q + 1; k++) {
                same("triple(" + p + ", " + k + ")", x.triple(p, k), y.triple(p, k));
                same("row(" + p + ", " + k + ")", x.row(p, k), y.row(p, k));
            }
            for (int r = -1; r <= y.g.n; r++) {
                same("on(" + p + ", " + r + ")", x.on(p, r), y.on(p, r));
                same("join(" + p + ", " + r + ")", x.join(p, r), y.join(p, r));
            }
        }
    }

    /** All sets of q = 2, and in q = 3, 4, 5 many of one or two points. */
    private static void allSmallSets() {
        for (int bits = 0; bits < 128; bits++) {
            renew(2);
            for (int p = 0; p < 7; p++) {
                boolean in = (bits >> p & 1) == 1;
                same("put", x.put(p, in), y.put(p, in));
            }
            tellSet();
        }
        for (int q = 3; q <= 5; q++) {
            int n = q * q + q + 1;
            for (int a = 0; a < n; a += 1 + a / 4) {
                for (int b = a; b < n; b += 1 + (b - a) / 4) {
                    renew(q);
                    same("put", x.put(a, true), y.put(a, true));
                    same("put", x.put(b, true), y.put(b, true));
                    tellSet();
                }
            }
        }
    }

    /** Goes through all arcs of q 2 .. 5: the program's shortcut is that the complete ones are of one size. */
    private static void allArcs() {
        int[] due = {4, 4, 6, 6};
        for (int q = 2; q <= 5; q++) {
            Geometry g = geometry(q);
            TreeSet<Integer> sizes = new TreeSet<>();
            completeSizes(g, new ArrayList<>(), 0, sizes);
            seed = 0;
            same("sizes of complete arcs of " + q, sizes.size() == 1 ? sizes.first() : NONE, due[q - 2]);
        }
    }

    private static void completeSizes(Geometry g, List<Integer> arc, int from, TreeSet<Integer> sizes) {
        boolean complete = true;
        for (int p = 0; p < g.n; p++) {
            if (!arc.contains(p) && g.canCome(arc, p)) {
                complete = false;
                if (p >= from) {
                    arc.add(p);
                    completeSizes(g, arc, p + 1, sizes);
                    arc.remove(arc.size() - 1);
                }
            }
        }
        if (complete) {
            sizes.add(arc.size());
        }
    }

    private static void tellSet() {
        for (int k = -2; k <= 7; k++) {
            same("greatest(" + k + ") of " + y.set, x.greatest(k), y.greatest(k));
            same("meets(" + k + ") of " + y.set, x.meets(k), y.meets(k));
            same("through(" + k + ") of " + y.set, x.through(k), y.through(k));
            same("closure(" + k + ") of " + y.set, x.closure(k), Oracle.pick(y.g.closure(y.set), k));
            same("is(" + k + ") of " + y.set, x.is(k), y.is(k));
            same("count(" + k + ") of " + y.set, x.count(k), y.count(k));
        }
    }

    public static void main(String[] args) {
        for (int q : QS) {
            allOfTheField(q);
            allOfThePlane(q);
        }
        allSmallSets();
        allArcs();
        for (int number = 1; number <= 1400; number++) {
            run(number, QS[number % 7]);
        }
        System.out.println(calls + " calls compared, " + wrong + " answers are not as due");
        if (wrong != 0) {
            System.exit(1);
        }
    }
}
