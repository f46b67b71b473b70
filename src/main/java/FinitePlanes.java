/**
 * Planes with finitely many points. What each method promises is told in shared/DOC.md, whose
 * words (POINT, LINE, THE SET, MAP, TABLE, ..) are used here as they are there.
 *
 * All arrays are made once, for the greatest q, so that no call makes an object.
 */
public final class FinitePlanes {
    public static final int NONE = -1, BAD = -2, ZERO = -3;

    private static final int MOST_NUMBERS = 9;
    private static final int MOST_BITS = 3;
    private static final int MOST_ON_LINE = 10;
    private static final int MOST_POINTS = 91;
    private static final int MOST_IN_TABLE = 13;
    private static final int CURVE_NUMBERS = 6;
    private static final int CURVE_POINTS = 5;

    private final Field field;
    private final Plane plane;
    private final PointSet set;
    private final Conic conic;
    private final Mapping map;
    private final Mapping framing;
    private final Table table;

    public FinitePlanes() {
        field = new Field();
        plane = new Plane(field);
        set = new PointSet(plane);
        conic = new Conic(plane);
        map = new Mapping(plane);
        framing = new Mapping(plane);
        table = new Table();
    }

    public int begin(int q) {
        if (!Field.exists(q)) {
            return BAD;
        }
        int before = field.q;
        field.build(q);
        plane.build();
        set.clear();
        map.reset();
        return before;
    }

    public int reckon(int how, int a, int b) {
        if (how < 0 || how > 3 || !field.has(a) || !field.has(b)) {
            return BAD;
        }
        switch (how) {
            case 0:
                return field.plus(a, b);
            case 1:
                return field.minus(a, b);
            case 2:
                return field.times(a, b);
            default:
                return b == 0 ? ZERO : field.over(a, b);
        }
    }

    public int triple(int p, int k) {
        if (!plane.has(p) || k < 0 || k > 2) {
            return BAD;
        }
        return plane.part(p, k);
    }

    public int number(int x, int y, int z) {
        if (!field.has(x) || !field.has(y) || !field.has(z)) {
            return BAD;
        }
        return plane.numberOf(x, y, z);
    }

    public int on(int p, int l) {
        if (!plane.has(p) || !plane.has(l)) {
            return BAD;
        }
        return bit(plane.isOn(p, l));
    }

    public int join(int p, int r) {
        if (!plane.has(p) || !plane.has(r) || p == r) {
            return BAD;
        }
        return plane.numberOf(plane.cross(p, r, 0), plane.cross(p, r, 1), plane.cross(p, r, 2));
    }

    public int row(int l, int k) {
        if (!plane.has(l)) {
            return BAD;
        }
        return k < 0 || k > field.q ? NONE : plane.onRow(l, k);
    }

    public int put(int p, boolean in) {
        if (!plane.has(p)) {
            return BAD;
        }
        int before = bit(set.in[p]);
        set.in[p] = in;
        return before;
    }

    public int member(int k) {
        return plane.pick(set.in, k);
    }

    public int count(int what) {
        switch (what) {
            case 0:
                return field.q;
            case 1:
                return plane.n;
            case 2:
                return plane.sizeOf(set.in);
            case 3:
                return set.spares();
            case 4:
                return plane.sizeOf(set.close());
            case 5:
                return set.arcNewcomers();
            case 6:
                return table.w;
            case 7:
                return table.marks();
            default:
                return BAD;
        }
    }

    public int meets(int k) {
        return set.linesWith(k);
    }

    public int is(int what) {
        switch (what) {
            case 0:
                return bit(set.isArc());
            case 1:
                return bit(set.isArc() && set.arcNewcomers() == 0);
            case 2:
                return bit(set.blocks());
            case 3:
                return bit(plane.sizeOf(set.close()) == plane.sizeOf(set.in));
            default:
                return BAD;
        }
    }

    public int greatest(int k) {
        if (field.q > 5) {
            return BAD;
        }
        if (!set.isArc()) {
            return NONE;
        }
        boolean[] arc = set.growArc();
        return k == -1 ? plane.sizeOf(arc) : plane.pick(arc, k);
    }

    public int closure(int k) {
        return plane.pick(set.close(), k);
    }

    public int curve(int a, int b, int c, int d, int e, int f) {
        if (!field.has(a) || !field.has(b) || !field.has(c)
                || !field.has(d) || !field.has(e) || !field.has(f)) {
            return BAD;
        }
        if (a == 0 && b == 0 && c == 0 && d == 0 && e == 0 && f == 0) {
            return ZERO;
        }
        conic.choose(a, b, c, d, e, f);
        conic.copyPointsTo(set.in);
        return plane.sizeOf(set.in);
    }

    public int through(int k) {
        if (k < 0 || k >= CURVE_NUMBERS) {
            return BAD;
        }
        if (plane.sizeOf(set.in) != CURVE_POINTS || set.mostOnLine() > 3) {
            return NONE;
        }
        conic.passThrough(set.in);
        return conic.numbers[k];
    }

    public int entry(int k, int v) {
        if (k < 0 || k > 8 || !field.has(v)) {
            return BAD;
        }
        int before = map.m[k];
        map.m[k] = v;
        return before;
    }

    public int determinant() {
        return map.det();
    }

    public int image(int p) {
        return plane.has(p) ? map.goesTo(p) : BAD;
    }

    public int order() {
        return map.det() == 0 ? ZERO : map.period();
    }

    public int fixed() {
        return map.fixedPoints();
    }

    public int invert() {
        if (map.det() == 0) {
            return ZERO;
        }
        map.turnBack();
        return 1;
    }

    public int move() {
        map.carry(set.in);
        return plane.sizeOf(set.in);
    }

    public int frame(int a, int b, int c, int d) {
        if (!plane.hasFour(a, b, c, d)) {
            return BAD;
        }
        if (!plane.isFrame(a, b, c, d)) {
            return NONE;
        }
        map.takeFrame(a, b, c, d);
        return 1;
    }

    public int behind(int a, int b, int c, int d) {
        if (!plane.hasFour(a, b, c, d)) {
            return BAD;
        }
        if (!plane.isFrame(a, b, c, d)) {
            return NONE;
        }
        if (map.det() == 0) {
            return ZERO;
        }
        framing.takeFrame(a, b, c, d);
        map.goBehind(framing);
        return 1;
    }

    public int ratio(int a, int b, int c, int d) {
        if (!plane.hasFour(a, b, c, d)) {
            return BAD;
        }
        if (a == b || a == c || b == c
                || plane.det(a, b, c) != 0 || plane.det(a, b, d) != 0) {
            return NONE;
        }
        return plane.ratioOf(a, b, c, d);
    }

    public int table(int w) {
        if (w < 1 || w > MOST_IN_TABLE) {
            return BAD;
        }
        int before = table.w;
        table.empty(w);
        return before;
    }

    public int mark(int l, int p, boolean on) {
        if (!table.has(l) || !table.has(p)) {
            return BAD;
        }
        int before = bit(table.isMarked(l, p));
        table.setMark(l, p, on);
        return before;
    }

    public int flaw() {
        return table.firstFlaw();
    }

    public int told() {
        if (field.q > 3) {
            return BAD;
        }
        table.takePlane(plane);
        return table.w;
    }

    private static int bit(boolean yes) {
        return yes ? 1 : 0;
    }

    /** All 0 stays as it is. */
    private static void scaleToTold(Field field, int[] numbers) {
        int head = 0;
        for (int k = 0; k < numbers.length; k++) {
            if (head == 0) {
                head = numbers[k];
            }
            if (head != 0) {
                numbers[k] = field.over(numbers[k], head);
            }
        }
    }

    /** The NUMBERS 0 .. q - 1 and how they are reckoned with, by tables. */
    private static final class Field {
        private int q;
        private final int[] sums = new int[MOST_NUMBERS * MOST_NUMBERS];
        private final int[] products = new int[MOST_NUMBERS * MOST_NUMBERS];
        private final int[] opposites = new int[MOST_NUMBERS];
        private final int[] inverses = new int[MOST_NUMBERS];

        Field() {
            build(2);
        }

        static boolean exists(int q) {
            return q >= 2 && q <= MOST_NUMBERS && q != 6;
        }

        void build(int newQ) {
            q = newQ;
            for (int a = 0; a < q; a++) {
                for (int b = 0; b < q; b++) {
                    int at = a * MOST_NUMBERS + b;
                    sums[at] = makeSum(a, b);
                    products[at] = makeProduct(a, b);
                    if (sums[at] == 0) {
                        opposites[a] = b;
                    }
                    if (products[at] == 1) {
                        inverses[a] = b;
                    }
                }
            }
        }

        private int makeSum(int a, int b) {
            if (q == 4 || q == 8) {
                return a ^ b;
            }
            if (q == 9) {
                return (a + b) % 3 + 3 * ((a / 3 + b / 3) % 3);
            }
            int sum = a + b;
            return sum < q ? sum : sum - q;
        }

        private int makeProduct(int a, int b) {
            if (q == 4) {
                return bitProduct(a, b, 0b111);
            }
            if (q == 8) {
                return bitProduct(a, b, 0b1011);
            }
            if (q == 9) {
                int real = a * b + 2 * (a / 3) * (b / 3);
                int imaginary = a * (b / 3) + (a / 3) * b;
                return real % 3 + 3 * (imaginary % 3);
            }
            int product = 0;
            for (int i = 0; i < b; i++) {
                product = makeSum(product, a);
            }
            return product;
        }

        /** The row of terms named vanishing is 0; its highest term is the bit q. */
        private int bitProduct(int a, int b, int vanishing) {
            int product = 0;
            int shifted = a;
            for (int k = 0; k < MOST_BITS; k++) {
                if ((b >> k & 1) != 0) {
                    product ^= shifted;
                }
                shifted <<= 1;
                if ((shifted & q) != 0) {
                    shifted ^= vanishing;
                }
            }
            return product;
        }

        boolean has(int a) {
            return a >= 0 && a < q;
        }

        int plus(int a, int b) {
            return sums[a * MOST_NUMBERS + b];
        }

        int minus(int a, int b) {
            return sums[a * MOST_NUMBERS + opposites[b]];
        }

        int times(int a, int b) {
            return products[a * MOST_NUMBERS + b];
        }

        /** Only for b that is not 0. */
        int over(int a, int b) {
            return products[a * MOST_NUMBERS + inverses[b]];
        }

        int opposite(int a) {
            return opposites[a];
        }

        /** a d - b c. */
        int crosswise(int a, int b, int c, int d) {
            return minus(times(a, d), times(b, c));
        }
    }

    /**
     * The POINTS of the plane of q. LINES have the same triples and numbers, and ON is the same
     * both ways round, so what is told of a LINE's POINTS here also tells a POINT's LINES.
     */
    private static final class Plane {
        private final Field field;
        private int n;
        private final int[] triples = new int[3 * MOST_POINTS];
        private final int[] rows = new int[MOST_ON_LINE * MOST_POINTS];

        Plane(Field field) {
            this.field = field;
            build();
        }

        void build() {
            int q = field.q;
            n = q * q + q + 1;
            setTriple(0, 0, 0, 1);
            for (int z = 0; z < q; z++) {
                setTriple(1 + z, 0, 1, z);
            }
            for (int y = 0; y < q; y++) {
                for (int z = 0; z < q; z++) {
                    setTriple(1 + q + y * q + z, 1, y, z);
                }
            }
            for (int l = 0; l < n; l++) {
                listRow(l);
            }
        }

        private void setTriple(int p, int x, int y, int z) {
            triples[3 * p] = x;
            triples[3 * p + 1] = y;
            triples[3 * p + 2] = z;
        }

        /**
         * From POINT 1 on, each q POINTS side by side differ in their third NUMBER alone, which
         * is 0 .. q - 1: so those ON the LINE are found without trying all of them.
         */
        private void listRow(int l) {
            int at = l * MOST_ON_LINE;
            int third = part(l, 2);
            if (third == 0) {
                rows[at] = 0;
                at++;
            }
            for (int block = 0; block <= field.q; block++) {
                int first = 1 + block * field.q;
                int rest = dot(l, first);
                if (third != 0) {
                    rows[at] = first + field.over(field.opposite(rest), third);
                    at++;
                } else if (rest == 0) {
                    for (int z = 0; z < field.q; z++) {
                        rows[at + z] = first + z;
                    }
                    at += field.q;
                }
            }
        }

        boolean has(int p) {
            return p >= 0 && p < n;
        }

        boolean hasFour(int a, int b, int c, int d) {
            return has(a) && has(b) && has(c) && has(d);
        }

        int part(int p, int k) {
            return triples[3 * p + k];
        }

        /** POINT k, k 0 .. q, ON a LINE. */
        int onRow(int l, int k) {
            return rows[l * MOST_ON_LINE + k];
        }

        /** ZERO, if all three are 0. */
        int numberOf(int x, int y, int z) {
            int q = field.q;
            if (x != 0) {
                return 1 + q + field.over(y, x) * q + field.over(z, x);
            }
            if (y != 0) {
                return 1 + field.over(z, y);
            }
            return z != 0 ? 0 : ZERO;
        }

        private int dot(int p, int r) {
            int sum = 0;
            for (int k = 0; k < 3; k++) {
                sum = field.plus(sum, field.times(part(p, k), part(r, k)));
            }
            return sum;
        }

        boolean isOn(int p, int l) {
            return dot(p, l) == 0;
        }

        /** NUMBER k of a triple that is 0 with both: the LINE that joins them, if they differ. */
        int cross(int p, int r, int k) {
            int i = (k + 1) % 3;
            int j = (k + 2) % 3;
            return field.crosswise(part(p, i), part(p, j), part(r, i), part(r, j));
        }

        /** Of three triples: 0, if and only if the POINTS are ON a LINE. */
        int det(int a, int b, int c) {
            int sum = 0;
            for (int k = 0; k < 3; k++) {
                sum = field.plus(sum, field.times(part(a, k), cross(b, c, k)));
            }
            return sum;
        }

        boolean isFrame(int a, int b, int c, int d) {
            return det(a, b, c) != 0 && det(a, b, d) != 0
                    && det(a, c, d) != 0 && det(b, c, d) != 0;
        }

        /** With c = u a + v b, the triple cross(a, c) is v cross(a, b), and so on for u, s, t. */
        int ratioOf(int a, int b, int c, int d) {
            int k = cross(a, b, 0) != 0 ? 0 : cross(a, b, 1) != 0 ? 1 : 2;
            int below = field.times(cross(a, d, k), cross(c, b, k));
            if (below == 0) {
                return field.q;
            }
            return field.over(field.times(cross(d, b, k), cross(a, c, k)), below);
        }

        int sizeOf(boolean[] points) {
            int size = 0;
            for (int p = 0; p < n; p++) {
                if (points[p]) {
                    size++;
                }
            }
            return size;
        }

        int pick(boolean[] points, int k) {
            int seen = 0;
            for (int p = 0; p < n; p++) {
                if (points[p]) {
                    if (seen == k) {
                        return p;
                    }
                    seen++;
                }
            }
            return NONE;
        }

        /** Into each LINE's place in onLine: how many of the POINTS are ON it. */
        void tally(boolean[] points, int[] onLine) {
            for (int l = 0; l < n; l++) {
                int size = 0;
                for (int k = 0; k <= field.q; k++) {
                    if (points[onRow(l, k)]) {
                        size++;
                    }
                }
                onLine[l] = size;
            }
        }

        /** How many LINES through a POINT have a tally of two or more. */
        int secants(int p, int[] onLine) {
            int size = 0;
            for (int k = 0; k <= field.q; k++) {
                if (onLine[onRow(p, k)] >= 2) {
                    size++;
                }
            }
            return size;
        }
    }

    /** THE SET. */
    private static final class PointSet {
        private final Plane plane;
        private final boolean[] in = new boolean[MOST_POINTS];
        private final boolean[] grown = new boolean[MOST_POINTS];
        private final int[] onLine = new int[MOST_POINTS];

        PointSet(Plane plane) {
            this.plane = plane;
        }

        void clear() {
            for (int p = 0; p < MOST_POINTS; p++) {
                in[p] = false;
            }
        }

        int linesWith(int k) {
            plane.tally(in, onLine);
            int size = 0;
            for (int l = 0; l < plane.n; l++) {
                if (onLine[l] == k) {
                    size++;
                }
            }
            return size;
        }

        int mostOnLine() {
            plane.tally(in, onLine);
            int most = 0;
            for (int l = 0; l < plane.n; l++) {
                most = Math.max(most, onLine[l]);
            }
            return most;
        }

        boolean isArc() {
            return mostOnLine() <= 2;
        }

        boolean blocks() {
            return linesWith(0) == 0;
        }

        /** A POINT is SPARE, if each LINE through it has another POINT of THE SET. */
        int spares() {
            if (!blocks()) {
                return 0;
            }
            int size = 0;
            for (int p = 0; p < plane.n; p++) {
                if (in[p] && plane.secants(p, onLine) == plane.field.q + 1) {
                    size++;
                }
            }
            return size;
        }

        int arcNewcomers() {
            if (!isArc()) {
                return 0;
            }
            int size = 0;
            for (int p = 0; p < plane.n; p++) {
                if (!in[p] && plane.secants(p, onLine) == 0) {
                    size++;
                }
            }
            return size;
        }

        /**
         * THE GREATEST ARC, if THE SET is an ARC. For q up to 5 all COMPLETE ARCS have the same
         * size (4, 4, 6 and 6), so each ARC is in one of most POINTS, and to take the least POINT
         * that can come, again and again, is right. What could not come once cannot come later.
         */
        boolean[] growArc() {
            startGrowing();
            for (int p = 0; p < plane.n; p++) {
                if (!grown[p] && plane.secants(p, onLine) == 0) {
                    grown[p] = true;
                    plane.tally(grown, onLine);
                }
            }
            return grown;
        }

        /** THE CLOSURE. A round that goes on brings a POINT, so n rounds are enough. */
        boolean[] close() {
            startGrowing();
            boolean grew = true;
            for (int round = 0; grew && round < plane.n; round++) {
                grew = addCrossings();
                plane.tally(grown, onLine);
            }
            return grown;
        }

        private void startGrowing() {
            for (int p = 0; p < plane.n; p++) {
                grown[p] = in[p];
            }
            plane.tally(grown, onLine);
        }

        private boolean addCrossings() {
            boolean grew = false;
            for (int p = 0; p < plane.n; p++) {
                if (!grown[p] && plane.secants(p, onLine) >= 2) {
                    grown[p] = true;
                    grew = true;
                }
            }
            return grew;
        }
    }

    /** A CURVE: its six NUMBERS, given, or found from five POINTS. */
    private static final class Conic {
        private final Plane plane;
        private final Field field;
        private final int[] numbers = new int[CURVE_NUMBERS];
        private final int[] matrix = new int[CURVE_POINTS * CURVE_NUMBERS];
        private final int[] pivots = new int[CURVE_POINTS];

        Conic(Plane plane) {
            this.plane = plane;
            this.field = plane.field;
        }

        void choose(int a, int b, int c, int d, int e, int f) {
            numbers[0] = a;
            numbers[1] = b;
            numbers[2] = c;
            numbers[3] = d;
            numbers[4] = e;
            numbers[5] = f;
        }

        /** What NUMBER k of a CURVE is multiplied with at a POINT. */
        private int term(int p, int k) {
            int x = plane.part(p, 0);
            int y = plane.part(p, 1);
            int z = plane.part(p, 2);
            switch (k) {
                case 0:
                    return field.times(x, x);
                case 1:
                    return field.times(y, y);
                case 2:
                    return field.times(z, z);
                case 3:
                    return field.times(y, z);
                case 4:
                    return field.times(x, z);
                default:
                    return field.times(x, y);
            }
        }

        void copyPointsTo(boolean[] points) {
            for (int p = 0; p < plane.n; p++) {
                int sum = 0;
                for (int k = 0; k < CURVE_NUMBERS; k++) {
                    sum = field.plus(sum, field.times(numbers[k], term(p, k)));
                }
                points[p] = sum == 0;
            }
        }

        /** Of five POINTS, no four of them ON a LINE: then just one column has no pivot. */
        void passThrough(boolean[] points) {
            listTerms(points);
            int free = reduce();
            for (int k = 0; k < CURVE_NUMBERS; k++) {
                numbers[k] = k == free ? 1 : 0;
            }
            for (int r = 0; r < CURVE_POINTS; r++) {
                numbers[pivots[r]] = field.opposite(matrix[r * CURVE_NUMBERS + free]);
            }
            scaleToTold(field, numbers);
        }

        private void listTerms(boolean[] points) {
            for (int r = 0; r < CURVE_POINTS; r++) {
                int p = plane.pick(points, r);
                for (int k = 0; k < CURVE_NUMBERS; k++) {
                    matrix[r * CURVE_NUMBERS + k] = p == NONE ? 0 : term(p, k);
                }
            }
        }

        /** Gauss and Jordan: the column that is left without a pivot. */
        private int reduce() {
            int free = CURVE_NUMBERS - 1;
            int rank = 0;
            for (int column = 0; column < CURVE_NUMBERS; column++) {
                int found = findPivot(rank, column);
                if (found == NONE) {
                    free = column;
                } else {
                    swapRows(rank, found);
                    clearColumn(rank, column);
                    pivots[rank] = column;
                    rank++;
                }
            }
            return free;
        }

        private int findPivot(int from, int column) {
            for (int r = from; r < CURVE_POINTS; r++) {
                if (matrix[r * CURVE_NUMBERS + column] != 0) {
                    return r;
                }
            }
            return NONE;
        }

        private void swapRows(int r, int s) {
            for (int k = 0; k < CURVE_NUMBERS; k++) {
                int kept = matrix[r * CURVE_NUMBERS + k];
                matrix[r * CURVE_NUMBERS + k] = matrix[s * CURVE_NUMBERS + k];
                matrix[s * CURVE_NUMBERS + k] = kept;
            }
        }

        private void clearColumn(int pivot, int column) {
            int head = matrix[pivot * CURVE_NUMBERS + column];
            for (int k = 0; k < CURVE_NUMBERS; k++) {
                int at = pivot * CURVE_NUMBERS + k;
                matrix[at] = field.over(matrix[at], head);
            }
            for (int r = 0; r < CURVE_POINTS; r++) {
                if (r != pivot) {
                    takeMultiple(r, pivot, matrix[r * CURVE_NUMBERS + column]);
                }
            }
        }

        private void takeMultiple(int r, int pivot, int factor) {
            for (int k = 0; k < CURVE_NUMBERS; k++) {
                int at = r * CURVE_NUMBERS + k;
                int part = field.times(factor, matrix[pivot * CURVE_NUMBERS + k]);
                matrix[at] = field.minus(matrix[at], part);
            }
        }
    }

    /** A MAP. */
    private static final class Mapping {
        private final Plane plane;
        private final Field field;
        private final int[] m = new int[9];
        private final int[] made = new int[9];
        private final boolean[] reached = new boolean[MOST_POINTS];

        Mapping(Plane plane) {
            this.plane = plane;
            this.field = plane.field;
            reset();
        }

        void reset() {
            for (int k = 0; k < 9; k++) {
                m[k] = k % 4 == 0 ? 1 : 0;
            }
        }

        /** With the sign that it has in the DETERMINANT, as rows and columns go round in a ring. */
        private int cofactor(int i, int j) {
            int i1 = 3 * ((i + 1) % 3);
            int i2 = 3 * ((i + 2) % 3);
            int j1 = (j + 1) % 3;
            int j2 = (j + 2) % 3;
            return field.crosswise(m[i1 + j1], m[i1 + j2], m[i2 + j1], m[i2 + j2]);
        }

        int det() {
            int sum = 0;
            for (int j = 0; j < 3; j++) {
                sum = field.plus(sum, field.times(m[j], cofactor(0, j)));
            }
            return sum;
        }

        private int imagePart(int p, int i) {
            int sum = 0;
            for (int k = 0; k < 3; k++) {
                sum = field.plus(sum, field.times(m[3 * i + k], plane.part(p, k)));
            }
            return sum;
        }

        /** ZERO, if to 0, 0, 0. */
        int goesTo(int p) {
            return plane.numberOf(imagePart(p, 0), imagePart(p, 1), imagePart(p, 2));
        }

        /**
         * Where a FRAME goes settles the MAP: so all POINTS are back as soon as the FRAME of
         * (0, 0, 1), (0, 1, 0), (1, 0, 0), (1, 1, 1) is. That takes n times at the most, for what
         * it takes divides q q + q + 1, q q - 1, q (q - 1) or 4.
         */
        int period() {
            int last = plane.numberOf(1, 1, 1);
            int a = 0;
            int b = 1;
            int c = 1 + field.q;
            int d = last;
            for (int times = 1; times <= plane.n; times++) {
                a = goesTo(a);
                b = goesTo(b);
                c = goesTo(c);
                d = goesTo(d);
                if (a == 0 && b == 1 && c == 1 + field.q && d == last) {
                    return times;
                }
                if (!plane.hasFour(a, b, c, d)) {
                    return ZERO;
                }
            }
            return ZERO;
        }

        int fixedPoints() {
            int size = 0;
            for (int p = 0; p < plane.n; p++) {
                if (goesTo(p) == p) {
                    size++;
                }
            }
            return size;
        }

        void turnBack() {
            for (int i = 0; i < 3; i++) {
                for (int j = 0; j < 3; j++) {
                    made[3 * j + i] = cofactor(i, j);
                }
            }
            takeMade();
        }

        void carry(boolean[] points) {
            for (int p = 0; p < plane.n; p++) {
                reached[p] = false;
            }
            for (int p = 0; p < plane.n; p++) {
                int to = points[p] ? goesTo(p) : ZERO;
                if (to != ZERO) {
                    reached[to] = true;
                }
            }
            for (int p = 0; p < plane.n; p++) {
                points[p] = reached[p];
            }
        }

        /**
         * Its columns are a, b, c, each so often that their sum is a multiple of d: by Cramer's
         * rule so often.
         */
        void takeFrame(int a, int b, int c, int d) {
            setColumn(0, a, plane.det(d, b, c));
            setColumn(1, b, plane.det(a, d, c));
            setColumn(2, c, plane.det(a, b, d));
            takeMade();
        }

        private void setColumn(int j, int p, int factor) {
            for (int i = 0; i < 3; i++) {
                made[3 * i + j] = field.times(factor, plane.part(p, i));
            }
        }

        void goBehind(Mapping first) {
            for (int i = 0; i < 3; i++) {
                for (int j = 0; j < 3; j++) {
                    int sum = 0;
                    for (int k = 0; k < 3; k++) {
                        sum = field.plus(sum, field.times(m[3 * i + k], first.m[3 * k + j]));
                    }
                    made[3 * i + j] = sum;
                }
            }
            takeMade();
        }

        private void takeMade() {
            for (int k = 0; k < 9; k++) {
                m[k] = made[k];
            }
            scaleToTold(field, m);
        }
    }

    /** A TABLE: a row of bits a LINE, bit p for POINT p. */
    private static final class Table {
        private int w = 1;
        private final int[] lines = new int[MOST_IN_TABLE];

        void empty(int newW) {
            w = newW;
            for (int l = 0; l < MOST_IN_TABLE; l++) {
                lines[l] = 0;
            }
        }

        boolean has(int k) {
            return k >= 0 && k < w;
        }

        boolean isMarked(int l, int p) {
            return (lines[l] >> p & 1) == 1;
        }

        void setMark(int l, int p, boolean on) {
            lines[l] = on ? lines[l] | 1 << p : lines[l] & ~(1 << p);
        }

        int marks() {
            int size = 0;
            for (int l = 0; l < w; l++) {
                size += Integer.bitCount(lines[l]);
            }
            return size;
        }

        /** Only for planes of at most thirteen POINTS. */
        void takePlane(Plane plane) {
            empty(Math.min(plane.n, MOST_IN_TABLE));
            for (int l = 0; l < w; l++) {
                for (int p = 0; p < w; p++) {
                    setMark(l, p, plane.isOn(p, l));
                }
            }
        }

        int firstFlaw() {
            for (int a = 0; a < w; a++) {
                for (int b = a + 1; b < w; b++) {
                    if (Integer.bitCount(lines[a] & lines[b]) != 1) {
                        return 1000 + 20 * a + b;
                    }
                }
            }
            for (int a = 0; a < w; a++) {
                for (int b = a + 1; b < w; b++) {
                    if (linesWithBoth(a, b) != 1) {
                        return 2000 + 20 * a + b;
                    }
                }
            }
            return hasFrame() ? 0 : 3000;
        }

        private int linesWithBoth(int a, int b) {
            int both = 1 << a | 1 << b;
            int size = 0;
            for (int l = 0; l < w; l++) {
                if ((lines[l] & both) == both) {
                    size++;
                }
            }
            return size;
        }

        private boolean hasFrame() {
            for (int a = 0; a < w; a++) {
                for (int b = a + 1; b < w; b++) {
                    for (int c = b + 1; c < w; c++) {
                        for (int d = c + 1; d < w; d++) {
                            if (isFrameHere(1 << a | 1 << b | 1 << c | 1 << d)) {
                                return true;
                            }
                        }
                    }
                }
            }
            return false;
        }

        private boolean isFrameHere(int four) {
            for (int l = 0; l < w; l++) {
                if (Integer.bitCount(lines[l] & four) > 2) {
                    return false;
                }
            }
            return true;
        }
    }
}
