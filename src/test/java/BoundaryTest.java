import java.util.Arrays;
import java.util.stream.IntStream;

/**
 * Each sentence of DOC.md that names a boundary case, in the document's order, each with a test of
 * its own under the sentence's words. No object here is used for more than 512 calls. That what is
 * refused changes nothing, and which refusal comes first, is in RefusalTest.
 */
public final class BoundaryTest {
    private static final int NONE = FinitePlanes.NONE, BAD = FinitePlanes.BAD, ZERO = FinitePlanes.ZERO;
    private static final int LEAST = Integer.MIN_VALUE, MOST = Integer.MAX_VALUE;
    private static final int[] QS = {2, 3, 4, 5, 7, 8, 9};
    private static String words = "";
    private static int sentences = 0;
    private static int checks = 0;
    private static int wrong = 0;

    private static void sentence(String told, Runnable test) {
        words = told;
        sentences++;
        test.run();
    }

    private static void due(String what, int got, int want) {
        checks++;
        if (got != want) {
            wrong++;
            System.out.println("\"" + words + "\": " + what + " answered " + got + ", due is " + want);
        }
    }

    // ---- helpers

    private static FinitePlanes of(int q) {
        FinitePlanes x = new FinitePlanes();
        x.begin(q);
        return x;
    }

    private static FinitePlanes with(int q, int... points) {
        FinitePlanes x = of(q);
        for (int p : points) {
            x.put(p, true);
        }
        return x;
    }

    private static FinitePlanes withAll(int q) {
        FinitePlanes x = of(q);
        for (int p = 0; p < many(q); p++) {
            x.put(p, true);
        }
        return x;
    }

    private static FinitePlanes withLine(int q, int l) {
        FinitePlanes x = of(q);
        for (int k = 0; k <= q; k++) {
            x.put(x.row(l, k), true);
        }
        return x;
    }

    private static FinitePlanes withMap(int q, int... numbers) {
        FinitePlanes x = of(q);
        for (int k = 0; k < 9; k++) {
            x.entry(k, numbers[k]);
        }
        return x;
    }

    private static FinitePlanes withTable(String... lines) {
        FinitePlanes x = new FinitePlanes();
        x.table(lines.length);
        for (int l = 0; l < lines.length; l++) {
            for (int p = 0; p < lines.length; p++) {
                if (lines[l].charAt(p) == '1') {
                    x.mark(l, p, true);
                }
            }
        }
        return x;
    }

    private static int many(int q) {
        return q * q + q + 1;
    }

    private static void setIs(String what, FinitePlanes x, int... points) {
        due(what + ": size", x.count(2), points.length);
        for (int k = 0; k < points.length; k++) {
            due(what + ": member " + k, x.member(k), points[k]);
        }
    }

    /** Wipes the MAP out. */
    private static void mapIs(String what, FinitePlanes x, int... numbers) {
        for (int k = 0; k < 9; k++) {
            due(what + ": m" + k, x.entry(k, 0), numbers[k]);
        }
    }

    private static int[] others(int q, int l) {
        FinitePlanes x = of(q);
        return IntStream.range(0, many(q)).filter(p -> x.on(p, l) == 0).toArray();
    }

    // ---- "What it is"

    private static void numbers() {
        for (int q : QS) {
            FinitePlanes x = of(q);
            due("0 + 0", x.reckon(0, 0, 0), 0);
            due("the highest + 0", x.reckon(0, q - 1, 0), q - 1);
            due("0 + the highest", x.reckon(0, 0, q - 1), q - 1);
            due("-1 is none", x.reckon(0, -1, 0), BAD);
            due("q is none", x.reckon(0, q, 0), BAD);
            due("-1 is none", x.reckon(0, 0, -1), BAD);
            due("q is none", x.reckon(0, 0, q), BAD);
            due("triple of the highest", x.number(0, q - 1, 0), 1);
            due("triple of q", x.number(0, q, 0), BAD);
            due("map of the highest", x.entry(4, q - 1), 1);
            due("map of q", x.entry(4, q), BAD);
            due("map: it is the highest", x.entry(4, 0), q - 1);
            due("curve of the highest", x.curve(0, 0, q - 1, 0, 0, 0), q + 1);
            due("curve of q", x.curve(0, 0, q, 0, 0, 0), BAD);
        }
    }

    private static void whichQ() {
        for (int q = -20; q <= 300; q++) {
            boolean is = q > 1 && q < 10 && q != 6;
            FinitePlanes x = new FinitePlanes();
            due("begin(" + q + ")", x.begin(q), is ? 2 : BAD);
            due("begin(" + q + "): q", x.count(0), is ? q : 2);
        }
        due("begin(LEAST)", new FinitePlanes().begin(LEAST), BAD);
        due("begin(MOST)", new FinitePlanes().begin(MOST), BAD);
    }

    private static void primes() {
        for (int q : new int[] {2, 3, 5, 7}) {
            FinitePlanes x = of(q);
            for (int a = 0; a < q; a++) {
                for (int b = 0; b < q; b++) {
                    due(a + " + " + b, x.reckon(0, a, b), (a + b) % q);
                    due(a + " - " + b, x.reckon(1, a, b), (a - b + q) % q);
                    due(a + " " + b, x.reckon(2, a, b), a * b % q);
                    due(a + " " + b + " / " + b, x.reckon(3, a * b % q, b), b == 0 ? ZERO : a);
                }
            }
        }
    }

    private static void bitByBit() {
        for (int q : new int[] {4, 8}) {
            FinitePlanes x = of(q);
            for (int a = 0; a < q; a++) {
                for (int b = 0; b < q; b++) {
                    due(a + " + " + b, x.reckon(0, a, b), a ^ b);
                    due(a + " - " + b, x.reckon(1, a, b), a ^ b);
                }
            }
        }
    }

    /** All that is not 0 is a power of t: exponents are added, round in a ring. */
    private static void powersOfT(int q, int... powers) {
        FinitePlanes x = of(q);
        int ring = q - 1;
        for (int i = 0; i < ring; i++) {
            due("0 by power " + i, x.reckon(3, 0, powers[i]), 0);
            due("0 times power " + i, x.reckon(2, 0, powers[i]), 0);
            due("power " + i + " times 0", x.reckon(2, powers[i], 0), 0);
            for (int j = 0; j < ring; j++) {
                due("power " + i + " times " + j, x.reckon(2, powers[i], powers[j]), powers[(i + j) % ring]);
                due("power " + i + " by " + j, x.reckon(3, powers[i], powers[j]),
                        powers[(i - j + ring) % ring]);
            }
        }
    }

    private static void nine() {
        FinitePlanes x = of(9);
        for (int a = 0; a < 9; a++) {
            for (int b = 0; b < 9; b++) {
                due(a + " + " + b, x.reckon(0, a, b), (a % 3 + b % 3) % 3 + 3 * ((a / 3 + b / 3) % 3));
                due(a + " - " + b, x.reckon(1, a, b),
                        (a % 3 - b % 3 + 3) % 3 + 3 * ((a / 3 - b / 3 + 3) % 3));
                int product = (a % 3 * (b % 3) + 2 * (a / 3) * (b / 3)) % 3
                        + 3 * ((a % 3 * (b / 3) + a / 3 * (b % 3)) % 3);
                due(a + " " + b, x.reckon(2, a, b), product);
                due(product + " / " + b, x.reckon(3, product, b), b == 0 ? ZERO : a);
            }
        }
    }

    private static void calls512() {
        FinitePlanes x = new FinitePlanes();
        int before = 2;
        for (int call = 1; call <= 510; call++) {
            int q = QS[call % QS.length];
            due("call " + call, x.begin(q), before);
            before = q;
        }
        due("call 511", x.begin(9), before);
        due("call 512", x.count(1), 91);
        x = of(9);
        for (int call = 2; call <= 511; call++) {
            int p = (call - 2) % 91;
            due("call " + call, x.put(p, true), call - 2 < 91 ? 0 : 1);
        }
        due("call 512 of another", x.count(2), 91);
    }

    // ---- "Terms", 1

    private static void notAllZero() {
        for (int q : QS) {
            FinitePlanes x = of(q);
            due("(0, 0, 0)", x.number(0, 0, 0), ZERO);
            for (int p = 0; p < many(q); p++) {
                due(p + " is not all 0", x.triple(p, 0) + x.triple(p, 1) + x.triple(p, 2) > 0 ? 1 : 0, 1);
            }
        }
    }

    private static void multiplesAreOne() {
        for (int q : QS) {
            for (int p = 0; p < many(q); p++) {
                FinitePlanes x = of(q);
                int a = x.triple(p, 0);
                int b = x.triple(p, 1);
                int c = x.triple(p, 2);
                due(p + " begins with 1", a != 0 ? a : b != 0 ? b : c, 1);
                for (int k = 1; k < q; k++) {
                    int number = x.number(x.reckon(2, k, a), x.reckon(2, k, b), x.reckon(2, k, c));
                    due(k + " times " + p, number, p);
                }
            }
        }
    }

    private static void inTheirOrder() {
        for (int q : QS) {
            FinitePlanes x = of(q);
            int n = many(q);
            int before = 0;
            for (int p = 0; p < n; p++) {
                int told = 100 * x.triple(p, 0) + 10 * x.triple(p, 1) + x.triple(p, 2);
                due(p + " is behind the one before", told > before ? 1 : 0, 1);
                before = told;
            }
            due("the first", x.number(0, 0, 1), 0);
            due("the second", x.number(0, 1, 0), 1);
            due("the last that begins with 0", x.number(0, 1, q - 1), q);
            due("the first that begins with 1", x.number(1, 0, 0), q + 1);
            due("the last", x.number(1, q - 1, q - 1), n - 1);
        }
    }

    private static void howManyPoints() {
        for (int q : QS) {
            FinitePlanes x = of(q);
            int n = many(q);
            due("n", x.count(1), n);
            due("triple(n - 1)", x.triple(n - 1, 2), q - 1);
            due("triple(n)", x.triple(n, 2), BAD);
            due("put(n - 1)", x.put(n - 1, true), 0);
            due("put(n)", x.put(n, true), BAD);
            due("image(n - 1)", x.image(n - 1), n - 1);
            due("image(n)", x.image(n), BAD);
            due("row(n - 1)", x.row(n - 1, 0) >= 0 ? 1 : 0, 1);
            due("row(n)", x.row(n, 0), BAD);
            due("on(n - 1, n - 1)", x.on(n - 1, n - 1) >= 0 ? 1 : 0, 1);
            due("on(n, n - 1)", x.on(n, n - 1), BAD);
            due("on(n - 1, n)", x.on(n - 1, n), BAD);
            due("join(n - 1, n - 2)", x.join(n - 1, n - 2) >= 0 ? 1 : 0, 1);
            due("join(n, n - 1)", x.join(n, n - 1), BAD);
            due("join(n - 1, n)", x.join(n - 1, n), BAD);
        }
        FinitePlanes x = of(9);
        x.begin(2);
        due("q 9, then 2: 7 is no point", x.put(7, true), BAD);
        due("q 9, then 2: 7 is no line", x.row(7, 0), BAD);
    }

    private static void onALine() {
        for (int q : QS) {
            FinitePlanes sums = of(q);
            int[][] product = new int[q][q];
            for (int at = 0; at < q * q; at++) {
                product[at / q][at % q] = sums.reckon(2, at / q, at % q);
            }
            for (int l = 0; l < many(q); l++) {
                FinitePlanes x = of(q);
                FinitePlanes y = of(q);
                for (int p = 0; p < many(q); p++) {
                    int sum = 0;
                    for (int k = 0; k < 3; k++) {
                        int part = product[y.triple(p, k)][x.triple(l, k)];
                        sum = add(q, sum, part);
                    }
                    due("on(" + p + ", " + l + ")", x.on(p, l), sum == 0 ? 1 : 0);
                }
            }
        }
    }

    private static int add(int q, int a, int b) {
        return q == 9 ? (a % 3 + b % 3) % 3 + 3 * ((a / 3 + b / 3) % 3) : q % 4 == 0 ? a ^ b : (a + b) % q;
    }

    // ---- "Terms", 2

    private static void noThreeOnALine() {
        for (int q : QS) {
            due("none", of(q).is(0), 1);
            for (int l = 0; l < many(q); l++) {
                FinitePlanes x = of(q);
                x.put(x.row(l, 0), true);
                due("one", x.is(0), 1);
                x.put(x.row(l, q), true);
                due("two", x.is(0), 1);
                x.put(x.row(l, 1), true);
                due("three on a line", x.is(0), 0);
                x.put(x.row(l, 0), false);
                due("two again", x.is(0), 1);
            }
            due("all", withAll(q).is(0), 0);
        }
    }

    private static void complete() {
        due("none", of(2).is(1), 0);
        due("q 2: three of four", with(2, 0, 1, 3).is(1), 0);
        due("q 2: four", with(2, 0, 1, 3, 6).is(1), 1);
        due("q 2: four, the one that could come is in", with(2, 0, 1, 3, 6).count(5), 0);
        due("q 2: five are no arc", with(2, 0, 1, 3, 6, 5).is(1), 0);
        due("q 2: a line, nothing can come, no arc", withLine(2, 0).is(1), 0);
        due("q 3: three", with(3, 0, 1, 4).is(1), 0);
        due("q 3: four", with(3, 0, 1, 4, 8).is(1), 1);
        for (int q : new int[] {5, 7, 9}) {
            FinitePlanes x = of(q);
            due("q " + q + ": a curve's size", x.curve(1, 0, 0, 1, 0, 0), q + 1);
            due("q " + q + ": a curve", x.is(1), 1);
            x.put(x.member(q), false);
            due("q " + q + ": a curve but for one", x.is(1), 0);
        }
        for (int q : new int[] {4, 8}) {
            FinitePlanes x = of(q);
            due("q " + q + ": a curve's size", x.curve(1, 0, 0, 1, 0, 0), q + 1);
            due("q " + q + ": a curve", x.is(1), 0);
            due("q " + q + ": one can come", x.count(5), 1);
            x.put(x.number(1, 0, 0), true);
            due("q " + q + ": a curve and that one", x.is(1), 1);
        }
        due("all", withAll(3).is(1), 0);
    }

    /** The first of most POINTS that is met, if the least POINT is always tried first. */
    private static boolean grow(boolean[][] on, boolean[] arc, int from, int left) {
        if (left == 0) {
            return true;
        }
        for (int p = from; p < arc.length; p++) {
            if (!arc[p]) {
                arc[p] = true;
                if (isArc(on, arc) && grow(on, arc, p + 1, left - 1)) {
                    return true;
                }
                arc[p] = false;
            }
        }
        return false;
    }

    private static boolean isArc(boolean[][] on, boolean[] arc) {
        for (boolean[] line : on) {
            int size = 0;
            for (int p = 0; p < arc.length; p++) {
                size += line[p] && arc[p] ? 1 : 0;
            }
            if (size > 2) {
                return false;
            }
        }
        return true;
    }

    private static boolean[][] lines(int q) {
        boolean[][] on = new boolean[many(q)][many(q)];
        for (int l = 0; l < on.length; l++) {
            FinitePlanes x = of(q);
            for (int p = 0; p < on.length; p++) {
                on[l][p] = x.on(p, l) == 1;
            }
        }
        return on;
    }

    private static void greatestIs(FinitePlanes x, boolean[] arc, String what) {
        int k = 0;
        for (int p = 0; p < arc.length; p++) {
            if (arc[p]) {
                due(what + ": " + k, x.greatest(k), p);
                k++;
            }
        }
        due(what + ": how many", x.greatest(-1), k);
        due(what + ": behind the last", x.greatest(k), NONE);
    }

    /** All ARCS of up to three POINTS, and no larger ones are there. */
    private static void greatestArcs() {
        for (int q = 2; q <= 5; q++) {
            boolean[][] on = lines(q);
            int most = q % 2 == 0 ? q + 2 : q + 1;
            int n = many(q);
            due("q " + q + ": no larger arc", grow(on, new boolean[n], 0, most + 1) ? 1 : 0, 0);
            for (int a = -1; a < n; a++) {
                for (int b = a < 0 ? -1 : a + 1; b < n; b += 3) {
                    int c = b < 0 ? -1 : (a + b) * 7 % n;
                    greatestOf(q, on, most, new int[] {a, b, c});
                }
            }
        }
    }

    private static void greatestOf(int q, boolean[][] on, int most, int[] points) {
        FinitePlanes x = of(q);
        boolean[] arc = new boolean[many(q)];
        int size = 0;
        for (int p : points) {
            if (p >= 0 && !arc[p]) {
                arc[p] = true;
                x.put(p, true);
                size++;
            }
        }
        String what = "q " + q + ": of " + Arrays.toString(points);
        if (isArc(on, arc)) {
            due(what + ": there is one", grow(on, arc, 0, most - size) ? 1 : 0, 1);
            greatestIs(x, arc, what);
        } else {
            due(what + ": no arc", x.greatest(-1), NONE);
            due(what + ": no arc", x.greatest(0), NONE);
        }
    }

    private static void greatestIsItself() {
        for (int q = 2; q <= 5; q++) {
            int most = q % 2 == 0 ? q + 2 : q + 1;
            FinitePlanes x = of(q);
            int[] points = new int[most];
            for (int k = 0; k < most; k++) {
                points[k] = x.greatest(k);
            }
            for (int p : points) {
                x.put(p, true);
            }
            due("q " + q + ": it is complete", x.is(1), 1);
            due("q " + q + ": as many", x.greatest(-1), most);
            for (int k = 0; k < most; k++) {
                due("q " + q + ": point " + k, x.greatest(k), points[k]);
            }
        }
    }

    private static void blocking() {
        for (int q : QS) {
            due("none", of(q).is(2), 0);
            due("all", withAll(q).is(2), 1);
            for (int l = 0; l < many(q); l++) {
                FinitePlanes x = withLine(q, l);
                due("a line", x.is(2), 1);
                x.put(x.row(l, l % (q + 1)), false);
                due("a line but for one", x.is(2), 0);
                x = of(q);
                for (int p : others(q, l)) {
                    x.put(p, true);
                }
                due("all that are not on a line", x.is(2), 0);
                due("which is the one line", x.meets(0), 1);
                x.put(x.row(l, l % (q + 1)), true);
                due("and one on it", x.is(2), 1);
            }
        }
    }

    private static void spare() {
        for (int q : QS) {
            int n = many(q);
            due("none", of(q).count(3), 0);
            due("all", withAll(q).count(3), n);
            for (int l = 0; l < n; l++) {
                FinitePlanes x = withLine(q, l);
                due("on a line no point is", x.count(3), 0);
                x.put(others(q, l)[l % (q * q)], true);
                due("one beside a line is", x.count(3), 1);
                x.put(x.row(l, 0), false);
                due("does not block", x.count(3), 0);
            }
            FinitePlanes x = withAll(q);
            for (int k = 0; k < q; k++) {
                x.put(x.row(0, k), false);
            }
            due("all but the last on a line", x.count(3), q * q);
            x.put(x.row(0, q), false);
            due("without that one it does not block", x.count(3), 0);
        }
    }

    private static void closures() {
        for (int q : QS) {
            due("none", of(q).count(4), 0);
            due("one", with(q, 2).count(4), 1);
            due("two", with(q, 0, many(q) - 1).count(4), 2);
            due("a triangle: the lines meet where they are", with(q, 0, 1, q + 1).count(4), 3);
            due("a line", withLine(q, 3).count(4), q + 1);
            FinitePlanes x = withLine(q, 3);
            x.put(others(q, 3)[0], true);
            due("a line and one beside", x.count(4), q + 2);
            due("all", withAll(q).count(4), many(q));
            int[] least = {0, 0, 2, 3, 2, 5, 0, 7, 2, 3};
            x = with(q, 0, 1, q + 1);
            x.put(x.number(1, 1, 1), true);
            due("a frame: again and again", x.count(4), many(least[q]));
            x = with(q, 1, q + 1);
            x.put(x.number(0, 1, 1), true);
            x.put(x.number(1, 0, 1), true);
            due("a frame that leads to point 0", x.closure(0), 0);
            due("a frame that leads to point 0: how many", x.count(4), many(least[q]));
        }
        FinitePlanes x = with(4, 0, 1, 5, 10);
        due("q 4: a frame and one that is not led to", x.put(3, true), 0);
        due("q 4: all", x.count(4), 21);
    }

    private static void ownClosure() {
        for (int q : QS) {
            due("none", of(q).is(3), 1);
            due("two", with(q, 0, many(q) - 1).is(3), 1);
            due("a line", withLine(q, 3).is(3), 1);
            due("all", withAll(q).is(3), 1);
            FinitePlanes x = with(q, 0, 1, q + 1);
            due("a triangle", x.is(3), 1);
            x.put(x.number(1, 1, 1), true);
            due("a frame", x.is(3), 0);
            x = withAll(q);
            x.put(many(q) - 1, false);
            due("all but one", x.is(3), 0);
        }
        due("q 4: the plane of 2 in it", with(4, 0, 1, 2, 5, 6, 9, 10).is(3), 1);
        due("q 4: that but for one", with(4, 0, 1, 2, 5, 6, 9).is(3), 0);
    }

    // ---- "Terms", 3

    private static void curves() {
        for (int q : QS) {
            int[] alone = {q + 1, q + 1, q + 1, 2 * q + 1, 2 * q + 1, 2 * q + 1};
            for (int k = 0; k < 6; k++) {
                for (int v : new int[] {1, q - 1}) {
                    int[] c = new int[6];
                    c[k] = v;
                    due(v + " at " + k + " alone",
                            of(q).curve(c[0], c[1], c[2], c[3], c[4], c[5]), alone[k]);
                }
            }
            FinitePlanes x = withAll(q);
            due("all 0", x.curve(0, 0, 0, 0, 0, 0), ZERO);
            due("the set is left", x.count(2), many(q));
        }
        FinitePlanes x = withAll(3);
        due("what was in the set goes out", x.curve(1, 1, 0, 0, 0, 0), 1);
        setIs("one point", x, 0);
    }

    private static void mapAtFirst() {
        mapIs("new", new FinitePlanes(), 1, 0, 0, 0, 1, 0, 0, 0, 1);
        for (int q : QS) {
            FinitePlanes x = of(q);
            due("determinant", x.determinant(), 1);
            due("order: at least once", x.order(), 1);
            due("fixed", x.fixed(), many(q));
            due("invert", x.invert(), 1);
            mapIs("begun", x, 1, 0, 0, 0, 1, 0, 0, 0, 1);
        }
    }

    /** Each of the six products alone, three of them with a minus. */
    private static void determinants() {
        int[][] places = {{0, 4, 8}, {1, 5, 6}, {2, 3, 7}, {0, 5, 7}, {1, 3, 8}, {2, 4, 6}};
        for (int q : QS) {
            for (int t = 0; t < 6; t++) {
                FinitePlanes x = withMap(q, 0, 0, 0, 0, 0, 0, 0, 0, 0);
                due("zeros", x.determinant(), 0);
                for (int at : places[t]) {
                    x.entry(at, 1);
                }
                due("product " + t, x.determinant(), t < 3 ? 1 : x.reckon(1, 0, 1));
                x.entry(places[t][2], q - 1);
                due("product " + t + " with q - 1", x.determinant(), t < 3 ? q - 1 : x.reckon(1, 0, q - 1));
                x.entry(places[t][1], 0);
                due("product " + t + " with 0", x.determinant(), 0);
            }
        }
    }

    private static void toldWithFirstOne() {
        FinitePlanes x = withMap(5, 3, 0, 0, 0, 3, 0, 0, 0, 3);
        due("first at 0", x.invert(), 1);
        mapIs("first at 0", x, 1, 0, 0, 0, 1, 0, 0, 0, 1);
        x = withMap(5, 0, 0, 2, 3, 0, 0, 0, 4, 0);
        due("first at 1", x.invert(), 1);
        // back: m1 is 1 / 3, m5 is 1 / 4, m6 is 1 / 2; three times that
        mapIs("first at 1", x, 0, 1, 0, 0, 0, 2, 4, 0, 0);
        x = withMap(5, 0, 2, 0, 0, 0, 3, 4, 0, 0);
        due("first at 2", x.invert(), 1);
        // back: m2 is 1 / 4, m3 is 1 / 2, m7 is 1 / 3; four times that
        mapIs("first at 2", x, 0, 0, 1, 2, 0, 0, 0, 3, 0);
        x = withMap(5, 3, 0, 0, 0, 3, 0, 0, 0, 3);
        due("a number is told as it was put", x.entry(0, 3), 3);
        x = withMap(5, 0, 0, 0, 0, 0, 4, 0, 3, 0);
        x.entry(0, 2);
        due("behind: as told", x.behind(x.number(1, 0, 0), 1, 0, x.number(1, 1, 1)), 1);
        mapIs("behind: as told", x, 1, 0, 0, 0, 0, 2, 0, 4, 0);
    }

    private static void framesAreFour() {
        for (int q : QS) {
            int n = many(q);
            boolean[][] on = lines(q);
            for (int c = 0; c < n; c += 2) {
                FinitePlanes x = of(q);
                FinitePlanes y = of(q);
                for (int d = 0; d < n; d++) {
                    boolean[] four = new boolean[n];
                    int size = 0;
                    for (int p : new int[] {q + 2, 2, c, d}) {
                        size += four[p] ? 0 : 1;
                        four[p] = true;
                    }
                    int want = size == 4 && isArc(on, four) ? 1 : NONE;
                    due("q " + q + ": " + c + ", " + d, x.frame(q + 2, 2, c, d), want);
                    due("q " + q + ": behind, " + c + ", " + d, y.behind(c, q + 2, d, 2), want);
                }
            }
        }
    }

    private static void ratios() {
        for (int q : QS) {
            for (int l = 0; l < many(q); l++) {
                FinitePlanes x = of(q);
                int a = x.row(l, q);
                int b = x.row(l, 0);
                int c = x.row(l, 1);
                due("d = a: it is q", x.ratio(a, b, c, a), q);
                due("d = b: it is 0", x.ratio(a, b, c, b), 0);
                due("d = c: it is 1", x.ratio(a, b, c, c), 1);
                due("turned, d = a", x.ratio(c, a, b, c), q);
                int seen = 0;
                for (int k = 0; k <= q; k++) {
                    seen |= 1 << x.ratio(a, b, c, x.row(l, k));
                }
                due("each once", seen, (1 << q + 1) - 1);
            }
        }
        FinitePlanes x = of(5);
        int c = x.number(2, 3, 0);
        int d = x.number(4, 1, 0);
        // u, v = 2, 3 and s, t = 4, 1: 4 3 / (1 2) = 6
        due("s v / (t u)", x.ratio(x.number(1, 0, 0), x.number(0, 1, 0), c, d), 1);
        d = x.number(1, 1, 0);
        // s, t = 1, 1: 3 / 2
        due("s v / (t u)", x.ratio(x.number(1, 0, 0), x.number(0, 1, 0), c, d), 4);
    }

    // ---- "Terms", 4

    private static void tableSizes() {
        for (int w = 1; w <= 13; w++) {
            FinitePlanes x = new FinitePlanes();
            due("table(" + w + ")", x.table(w), 1);
            due("w", x.count(6), w);
            due("mark(w - 1, w - 1)", x.mark(w - 1, w - 1, true), 0);
            due("mark(w, 0)", x.mark(w, 0, true), BAD);
            due("mark(0, w)", x.mark(0, w, true), BAD);
            due("one is on one", x.count(7), 1);
        }
        FinitePlanes x = new FinitePlanes();
        for (int w : new int[] {LEAST, -1, 0, 14, MOST}) {
            due("table(" + w + ")", x.table(w), BAD);
        }
    }

    /** The same plane with POINTS and LINES by other numbers. */
    private static FinitePlanes ring(int w, int... steps) {
        FinitePlanes x = new FinitePlanes();
        x.table(w);
        for (int l = 0; l < w; l++) {
            for (int step : steps) {
                x.mark(l, (l + step) % w, true);
            }
        }
        return x;
    }

    private static void planes() {
        due("seven", ring(7, 0, 1, 3).flaw(), 0);
        due("thirteen", ring(13, 0, 1, 3, 9).flaw(), 0);
        due("seven, others", ring(7, 1, 2, 4).flaw(), 0);
        for (int at = 0; at < 49; at++) {
            FinitePlanes x = ring(7, 0, 1, 3);
            int l = at / 7;
            int p = at % 7;
            x.mark(l, p, x.mark(l, p, false) == 0);
            int pair = x.flaw() - 1000;
            due("seven but for " + l + ", " + p, pair >= 0 && pair < 1000 ? 1 : 0, 1);
            due("seven but for " + l + ", " + p + ": line " + l + " is of the pair",
                    pair / 20 == l || pair % 20 == l ? 1 : 0, 1);
        }
    }

    private static String[] same(int w, String line) {
        String[] lines = new String[w];
        Arrays.fill(lines, line);
        return lines;
    }

    private static void flawOfLines() {
        due("two lines, no point", withTable("00", "00").flaw(), 1001);
        due("two lines, two points", withTable("11", "11").flaw(), 1001);
        for (int w = 2; w <= 13; w++) {
            due("none on any, " + w, withTable(same(w, "0".repeat(w))).flaw(), 1001);
            due("all on all, " + w, withTable(same(w, "1".repeat(w))).flaw(), 1001);
        }
        for (int a = 0; a < 13; a++) {
            for (int b = a + 1; b < 13; b++) {
                String[] lines = same(13, "1000000000000");
                lines[a] = "1000000000001";
                lines[b] = "1000000000001";
                due("two points with " + a + ", " + b, withTable(lines).flaw(), 1000 + 20 * a + b);
            }
            String[] lines = same(13, "1000000000000");
            lines[a] = "0100000000000";
            due("no point with " + a, withTable(lines).flaw(), a == 0 ? 1001 : 1000 + a);
        }
    }

    private static void leastAThenB() {
        String[] lines = same(13, "1000000000000");
        lines[0] = "1000000000010";
        lines[12] = "1000000000010";
        lines[1] = "1000000000001";
        lines[2] = "1000000000001";
        due("0, 12 before 1, 2", withTable(lines).flaw(), 1012);
        lines[0] = "1000000000000";
        due("1, 2 is left", withTable(lines).flaw(), 1022);
        lines[11] = "1000000000001";
        due("1, 2 before 1, 11", withTable(lines).flaw(), 1022);
        lines[2] = "1000000000000";
        due("1, 11 is left", withTable(lines).flaw(), 1031);
        due("points 0, 1 before 0, 2", withTable("100", "100", "100").flaw(), 2001);
        due("points 0, 2", withTable("110", "100", "100").flaw(), 2002);
        due("points 0, 3 before 1, 2", withTable("1100", "1010", "1000", "1000").flaw(), 2003);
        due("points 1, 2", withTable("1101", "1010", "1000", "1000").flaw(), 2022);
    }

    private static void flawOfPoints() {
        due("two points, no line", withTable("10", "10").flaw(), 2001);
        due("lines before points", withTable("100", "100", "011").flaw(), 1002);
        for (int w = 2; w <= 13; w++) {
            String zeros = "0".repeat(w);
            String first = "1" + zeros.substring(1);
            due("all lines through point 0, " + w, withTable(same(w, first)).flaw(), 2001);
            for (int last = 1; last < w; last++) {
                String[] lines = same(w, first);
                lines[w - 1] = "1".repeat(last) + zeros.substring(last);
                due("a line of " + last + " of " + w, withTable(lines).flaw(), 2000 + last);
            }
            if (w > 2) {
                String[] lines = same(w, first);
                lines[0] = "1".repeat(w - 1) + "0";
                lines[1] = "1" + zeros.substring(2) + "1";
                due("the last on another line, " + w, withTable(lines).flaw(), 2000 + 20 + w - 1);
            }
        }
    }

    private static void noFrame() {
        due("new", new FinitePlanes().flaw(), 3000);
        due("one on one", withTable("1").flaw(), 3000);
        due("two", withTable("11", "10").flaw(), 3000);
        due("two, the other way", withTable("01", "11").flaw(), 3000);
        due("a triangle", withTable("110", "101", "011").flaw(), 3000);
        for (int w = 1; w <= 13; w++) {
            String[] lines = same(w, "1" + "0".repeat(w - 1));
            lines[w / 2] = "1".repeat(w);
            due("all " + w + " on a line", withTable(lines).flaw(), 3000);
        }
        for (int w = 3; w <= 13; w++) {
            for (int one = 0; one < w; one++) {
                due("all of " + w + " but " + one + " on a line", allButOneOnALine(w, one).flaw(), 3000);
            }
        }
    }

    /** LINE one has all POINTS but POINT one, which each other LINE joins with one of them. */
    private static FinitePlanes allButOneOnALine(int w, int one) {
        FinitePlanes x = new FinitePlanes();
        x.table(w);
        for (int p = 0; p < w; p++) {
            if (p != one) {
                x.mark(p, p, true);
                x.mark(p, one, true);
                x.mark(one, p, true);
            }
        }
        return x;
    }

    // ---- promises 1 to 10

    private static void newObject() {
        FinitePlanes x = new FinitePlanes();
        due("q", x.count(0), 2);
        due("n", x.count(1), 7);
        due("the set", x.count(2), 0);
        due("no member", x.member(0), NONE);
        due("w", x.count(6), 1);
        due("none on any", x.count(7), 0);
        due("the one is not on it", x.mark(0, 0, true), 0);
        due("now it is", x.mark(0, 0, true), 1);
        due("no second line", x.mark(1, 0, true), BAD);
        due("no second point", x.mark(0, 1, true), BAD);
    }

    private static void begun() {
        for (int q : QS) {
            for (int next : QS) {
                FinitePlanes x = withLine(q, 0);
                x.entry(1, q - 1);
                x.entry(8, 0);
                x.table(3);
                x.mark(2, 1, true);
                due("the q it was", x.begin(next), q);
                due("the q it is", x.count(0), next);
                due("n", x.count(1), many(next));
                due("the set", x.count(2), 0);
                for (int p = 0; p < many(next); p++) {
                    due(p + " is not in", x.put(p, false), 0);
                }
                mapIs("the map", x, 1, 0, 0, 0, 1, 0, 0, 0, 1);
                due("the table stays", x.mark(2, 1, true), 1);
            }
        }
        FinitePlanes x = withAll(9);
        x.begin(2);
        x.begin(9);
        due("all are out", x.count(2), 0);
    }

    private static void byZero() {
        for (int q : QS) {
            FinitePlanes x = of(q);
            for (int a = 0; a < q; a++) {
                due(a + " by 0", x.reckon(3, a, 0), ZERO);
                due(a + " by 1", x.reckon(3, a, 1), a);
                due(a + " with 0: sum", x.reckon(0, a, 0), a);
                due(a + " with 0: difference", x.reckon(1, a, 0), a);
                due(a + " with 0: product", x.reckon(2, a, 0), 0);
            }
            due("how = -1", x.reckon(-1, 1, 1), BAD);
            due("how = 4", x.reckon(4, 1, 1), BAD);
            due("how = 4, by 0", x.reckon(4, 1, 0), BAD);
            due("q by 0", x.reckon(3, q, 0), BAD);
        }
    }

    private static void partsOfTriples() {
        for (int q : QS) {
            FinitePlanes x = of(q);
            for (int k : new int[] {LEAST, -1, 3, MOST}) {
                due("triple(0, " + k + ")", x.triple(0, k), BAD);
                due("triple(n - 1, " + k + ")", x.triple(many(q) - 1, k), BAD);
            }
            due("triple(0, 0)", x.triple(0, 0), 0);
            due("triple(0, 2)", x.triple(0, 2), 1);
            due("triple(n - 1, 0)", x.triple(many(q) - 1, 0), 1);
            due("triple(n - 1, 2)", x.triple(many(q) - 1, 2), q - 1);
        }
    }

    private static void joinOfTheSame() {
        for (int q : QS) {
            for (int p = 0; p < many(q); p++) {
                FinitePlanes x = of(q);
                due("join(" + p + ", " + p + ")", x.join(p, p), BAD);
                int r = (p + 1) % many(q);
                int l = x.join(p, r);
                due("the other way round", x.join(r, p), l);
                due("the first is on it", x.on(p, l), 1);
                due("the second is on it", x.on(r, l), 1);
            }
        }
    }

    private static void rowEnds() {
        for (int q : QS) {
            boolean[][] on = lines(q);
            for (int l = 0; l < many(q); l++) {
                FinitePlanes x = of(q);
                int k = 0;
                for (int p = 0; p < many(q); p++) {
                    if (on[l][p]) {
                        due("row(" + l + ", " + k + ")", x.row(l, k), p);
                        k++;
                    }
                }
                due("there are q + 1", k, q + 1);
                due("row(" + l + ", q + 1)", x.row(l, q + 1), NONE);
                due("row(" + l + ", -1)", x.row(l, -1), NONE);
                due("row(" + l + ", LEAST)", x.row(l, LEAST), NONE);
                due("row(" + l + ", MOST)", x.row(l, MOST), NONE);
            }
            due("row(-1, q + 1)", of(q).row(-1, q + 1), BAD);
            due("row(n, 0)", of(q).row(many(q), 0), BAD);
        }
        FinitePlanes x = of(9);
        x.begin(2);
        due("q 9, then 2: there are three", x.row(0, 3), NONE);
    }

    private static void putInAndOut() {
        for (int q : QS) {
            for (int p : new int[] {0, many(q) - 1}) {
                FinitePlanes x = of(q);
                due("goes out, is not in", x.put(p, false), 0);
                due("comes", x.put(p, true), 0);
                due("comes, is in", x.put(p, true), 1);
                due("one is in", x.count(2), 1);
                due("it", x.member(0), p);
                due("goes out", x.put(p, false), 1);
                due("goes out, is not in", x.put(p, false), 0);
                due("none is in", x.count(2), 0);
            }
        }
    }

    private static void members() {
        for (int q : QS) {
            FinitePlanes x = of(q);
            due("of none", x.member(0), NONE);
            x = withAll(q);
            for (int p = 0; p < many(q); p++) {
                due("of all", x.member(p), p);
            }
            due("of all: n", x.member(many(q)), NONE);
            due("of all: -1", x.member(-1), NONE);
            due("of all: LEAST", x.member(LEAST), NONE);
            due("of all: MOST", x.member(MOST), NONE);
            x.put(0, false);
            due("the first has gone", x.member(0), 1);
            due("one less", x.member(many(q) - 1), NONE);
        }
    }

    // ---- promises 11 to 17

    private static void counts() {
        FinitePlanes x = of(3);
        for (int what : new int[] {LEAST, -1, 8, MOST}) {
            due("count(" + what + ")", x.count(what), BAD);
        }
        int[] empty = {3, 13, 0, 0, 0, 13, 1, 0};
        int[] full = {3, 13, 13, 13, 13, 0, 13, 52};
        for (int what = 0; what < 8; what++) {
            due("of none: count(" + what + ")", x.count(what), empty[what]);
        }
        x = withAll(3);
        x.told();
        for (int what = 0; what < 8; what++) {
            due("of all: count(" + what + ")", x.count(what), full[what]);
        }
    }

    private static void newcomers() {
        for (int q : QS) {
            int n = many(q);
            due("to none", of(q).count(5), n);
            due("to one", with(q, n - 1).count(5), n - 1);
            due("to two", with(q, 0, n - 1).count(5), q * q);
            due("to three", with(q, 0, 1, q + 1).count(5), (q - 1) * (q - 1));
            due("to three on a line", with(q, 0, 1, 2).count(5), 0);
            due("to all", withAll(q).count(5), 0);
        }
        due("q 2: to three on a line", withLine(2, 0).count(5), 0);
        due("q 3: to a complete one", with(3, 0, 1, 4, 8).count(5), 0);
    }

    private static void tableCounts() {
        FinitePlanes x = new FinitePlanes();
        due("none", x.count(7), 0);
        x.table(13);
        for (int l = 0; l < 13; l++) {
            for (int p = 0; p < 13; p++) {
                x.mark(l, p, true);
            }
        }
        due("all on all", x.count(7), 169);
        due("thirteen", x.count(6), 13);
        x.mark(12, 12, false);
        x.mark(12, 12, false);
        due("but for one", x.count(7), 168);
        x.table(13);
        due("none again", x.count(7), 0);
    }

    private static void meetings() {
        for (int q : QS) {
            int n = many(q);
            FinitePlanes x = of(q);
            due("none: 0", x.meets(0), n);
            due("none: 1", x.meets(1), 0);
            x = withAll(q);
            due("all: q + 1", x.meets(q + 1), n);
            due("all: q", x.meets(q), 0);
            due("all: 0", x.meets(0), 0);
            x = with(q, n - 1);
            due("one: 0", x.meets(0), q * q);
            due("one: 1", x.meets(1), q + 1);
            x = withLine(q, n - 1);
            due("a line: 0", x.meets(0), 0);
            due("a line: 1", x.meets(1), q * q + q);
            due("a line: q + 1", x.meets(q + 1), 1);
            for (int k : new int[] {LEAST, -3, -2, -1, q + 2, n, MOST}) {
                due("meets(" + k + ")", x.meets(k), 0);
            }
        }
    }

    private static void isWhat() {
        for (int q : QS) {
            FinitePlanes x = of(q);
            for (int what : new int[] {LEAST, -1, 4, MOST}) {
                due("is(" + what + ")", x.is(what), BAD);
            }
            int[] none = {1, 0, 0, 1};
            int[] all = {0, 0, 1, 1};
            for (int what = 0; what < 4; what++) {
                due("none: is(" + what + ")", of(q).is(what), none[what]);
                due("all: is(" + what + ")", withAll(q).is(what), all[what]);
            }
        }
    }

    private static void greatestK() {
        int[] size = {0, 0, 4, 4, 6, 6};
        for (int q = 2; q <= 5; q++) {
            FinitePlanes x = of(q);
            due("q " + q + ": -1", x.greatest(-1), size[q]);
            due("q " + q + ": the first", x.greatest(0), 0);
            due("q " + q + ": there is a last", x.greatest(size[q] - 1) > 0 ? 1 : 0, 1);
            for (int k : new int[] {LEAST, -3, -2, size[q], size[q] + 1, MOST}) {
                due("q " + q + ": " + k, x.greatest(k), NONE);
            }
        }
    }

    private static void greatestOfNoArc() {
        for (int q = 2; q <= 5; q++) {
            FinitePlanes x = with(q, 0, 1, 2);
            for (int k = -2; k < 7; k++) {
                due("q " + q + ": " + k, x.greatest(k), NONE);
            }
            x.put(1, false);
            due("q " + q + ": an arc again", x.greatest(-1) > 3 ? 1 : 0, 1);
        }
    }

    private static void greatestAboveFive() {
        due("q 5", of(5).greatest(-1), 6);
        for (int q : new int[] {7, 8, 9}) {
            for (int k : new int[] {LEAST, -2, -1, 0, 5, MOST}) {
                due("q " + q + ": " + k, of(q).greatest(k), BAD);
                due("q " + q + ", no arc: " + k, with(q, 0, 1, 2).greatest(k), BAD);
            }
        }
    }

    private static void closureEnds() {
        for (int q : QS) {
            FinitePlanes x = of(q);
            due("of none", x.closure(0), NONE);
            x = withAll(q);
            due("of all: the first", x.closure(0), 0);
            due("of all: the last", x.closure(many(q) - 1), many(q) - 1);
            due("of all: n", x.closure(many(q)), NONE);
            x = with(q, many(q) - 1, 3);
            due("of two: the first", x.closure(0), 3);
            due("of two: the last", x.closure(1), many(q) - 1);
            for (int k : new int[] {LEAST, -1, 2, many(q), MOST}) {
                due("of two: " + k, x.closure(k), NONE);
            }
        }
    }

    private static void throughSizes() {
        for (int q : QS) {
            int n = many(q);
            for (int size = 0; size <= Math.min(n, 8); size++) {
                FinitePlanes x = of(q);
                for (int p = 0; p < size; p++) {
                    x.put(n - 1 - p * p % n, true);
                }
                FinitePlanes y = withAll(q);
                if (x.count(2) != 5) {
                    due(x.count(2) + " points", x.through(0), NONE);
                }
                due("all points", y.through(5), NONE);
            }
            int[] five = {0, 1, 2, q + 1, q + 2};
            FinitePlanes x = with(q, five);
            for (int k = 0; k < 6; k++) {
                due("three on a line: " + k, x.through(k), k == 5 ? 1 : 0);
            }
            x.put(n - 1, true);
            due("six", x.through(5), NONE);
            x.put(n - 1, false);
            due("five again", x.through(5), 1);
            x.put(0, false);
            due("four", x.through(5), NONE);
        }
    }

    private static void noFourOnALine() {
        for (int q : QS) {
            for (int l = 0; q > 2 && l < many(q); l++) {
                FinitePlanes x = of(q);
                for (int k = 0; k < 4; k++) {
                    x.put(x.row(l, (k + l) % (q + 1)), true);
                }
                int[] others = others(q, l);
                x.put(others[l % others.length], true);
                due("five", x.count(2), 5);
                due("four on line " + l, x.through(0), NONE);
                x.put(x.row(l, l % (q + 1)), false);
                x.put(others[(l + 1) % others.length], true);
                due("five", x.count(2), 5);
                due("three on line " + l, x.through(0) >= 0 ? 1 : 0, 1);
            }
            for (int l = 0; q > 3 && l < many(q); l++) {
                FinitePlanes x = of(q);
                for (int k = 0; k < 5; k++) {
                    x.put(x.row(l, k), true);
                }
                due("five on line " + l, x.through(0), NONE);
            }
        }
    }

    /** The CURVE found goes through the five, and its first NUMBER that is not 0 is 1. */
    private static void theOneCurve() {
        for (int q : QS) {
            int n = many(q);
            for (int step = 1; step < n; step++) {
                FinitePlanes x = of(q);
                for (int k = 0; k < 5; k++) {
                    x.put((k * k * k + k * step) % n, true);
                }
                int[] c = new int[6];
                int first = 0;
                for (int k = 0; k < 6; k++) {
                    c[k] = x.through(k);
                    first = first == 0 ? c[k] : first;
                }
                if (c[0] != NONE) {
                    int[] five = {x.member(0), x.member(1), x.member(2), x.member(3), x.member(4)};
                    due("the first is 1", first, 1);
                    x.curve(c[0], c[1], c[2], c[3], c[4], c[5]);
                    for (int p : five) {
                        due(p + " is on it", x.put(p, true), 1);
                    }
                }
            }
        }
    }

    private static void throughK() {
        for (int q : QS) {
            FinitePlanes x = with(q, 0, 1, 2, q + 1, q + 2);
            for (int k : new int[] {LEAST, -1, 6, MOST}) {
                due("five that fit: " + k, x.through(k), BAD);
                due("none: " + k, of(q).through(k), BAD);
            }
        }
    }

    // ---- promises 18 to 27

    private static void entries() {
        for (int q : QS) {
            FinitePlanes x = of(q);
            for (int k = 0; k < 9; k++) {
                due("what it was", x.entry(k, q - 1), k % 4 == 0 ? 1 : 0);
                due("what it became", x.entry(k, 0), q - 1);
                due("and again", x.entry(k, k % q), 0);
                due("q is no number", x.entry(k, q), BAD);
                due("-1 is no number", x.entry(k, -1), BAD);
            }
            for (int k : new int[] {LEAST, -1, 9, MOST}) {
                due("entry(" + k + ")", x.entry(k, 0), BAD);
            }
            mapIs("each at its place", x, 0, 1, 2 % q, 3 % q, 4 % q, 5 % q, 6 % q, 7 % q, 8 % q);
        }
    }

    private static void images() {
        for (int q : QS) {
            int n = many(q);
            FinitePlanes x = withMap(q, 1, 0, 0, 0, 1, 0, 0, 0, 0);
            due("(0, 0, 1) goes to 0, 0, 0", x.image(0), ZERO);
            due("(0, 1, 0) stays", x.image(1), 1);
            due("(0, 1, q - 1) goes to (0, 1, 0)", x.image(q), 1);
            due("n", x.image(n), BAD);
            due("-1", x.image(-1), BAD);
            x = withMap(q, 0, 0, 0, 0, 0, 0, 0, 0, 0);
            for (int p = 0; p < n; p++) {
                due("zeros: " + p, x.image(p), ZERO);
            }
            due("zeros: n", x.image(n), BAD);
            due("zeros: LEAST", x.image(LEAST), BAD);
            due("zeros: MOST", x.image(MOST), BAD);
        }
    }

    private static void orders() {
        for (int q : QS) {
            FinitePlanes x = withMap(q, q - 1, 0, 0, 0, q - 1, 0, 0, 0, q - 1);
            due("q " + q + ": a multiple of the first map: once", x.order(), 1);
            due("q " + q + ": a shear", withMap(q, 1, 0, 1, 0, 1, 0, 0, 0, 1).order(), prime(q));
            due("q " + q + ": (0, 0, 1) alone moves", withMap(q, 1, 0, 0, 0, 1, 1, 0, 0, 1).order(), prime(q));
            due("q " + q + ": a ring of three", withMap(q, 0, 1, 0, 0, 0, 1, 1, 0, 0).order(), 3);
            due("q " + q + ": two change", withMap(q, 0, 1, 0, 1, 0, 0, 0, 0, 1).order(), 2);
            due("q " + q + ": rank 2", withMap(q, 1, 0, 0, 0, 1, 0, 1, 1, 0).order(), ZERO);
            due("q " + q + ": zeros", withMap(q, 0, 0, 0, 0, 0, 0, 0, 0, 0).order(), ZERO);
            int longest = 0;
            for (int at = 0; at < q * q * (q - 1); at++) {
                x = withMap(q, 0, 0, 1 + at % (q - 1), 1, 0, at / (q - 1) % q, 0, 1, at / (q - 1) / q);
                longest = Math.max(longest, x.order());
            }
            due("q " + q + ": all points in one ring", longest, many(q));
        }
        due("q 2: four", withMap(2, 1, 1, 0, 0, 1, 1, 0, 0, 1).order(), 4);
        due("q 4: four", withMap(4, 1, 1, 0, 0, 1, 1, 0, 0, 1).order(), 4);
        due("q 3: three", withMap(3, 1, 1, 0, 0, 1, 1, 0, 0, 1).order(), 3);
    }

    /** One of the four POINTS of a FRAME alone moves, each in turn; then maps of all kinds. */
    private static void ordersByTrial() {
        for (int q : QS) {
            FinitePlanes sums = of(q);
            for (int v = 1; v < q; v++) {
                int u = sums.reckon(1, v, 1);
                orderByTrial("the last of a frame moves", withMap(q, 1, 0, 0, 0, 1, 0, 0, 0, v));
                orderByTrial("the last of a frame moves", withMap(q, 1, 0, 0, 0, v, 0, 0, 0, 1));
                orderByTrial("the last of a frame moves", withMap(q, v, 0, 0, 0, 1, 0, 0, 0, 1));
                orderByTrial("(0, 0, 1) moves", withMap(q, 1, 0, u, 0, 1, u, 0, 0, v));
                orderByTrial("(0, 1, 0) moves", withMap(q, 1, u, 0, 0, v, 0, 0, u, 1));
                orderByTrial("(1, 0, 0) moves", withMap(q, v, 0, 0, u, 1, 0, u, 0, 1));
            }
            int dice = 12345;
            for (int i = 0; i < 200; i++) {
                int[] m = new int[9];
                for (int k = 0; k < 9; k++) {
                    dice = dice * 1103515245 + 12345;
                    m[k] = (dice >>> 16) % q;
                }
                orderByTrial(Arrays.toString(m), withMap(q, m));
            }
        }
    }

    private static void orderByTrial(String what, FinitePlanes x) {
        int n = x.count(1);
        int[] to = new int[n];
        int[] at = new int[n];
        for (int p = 0; p < n; p++) {
            to[p] = x.image(p);
            at[p] = p;
        }
        if (x.determinant() == 0) {
            due(what, x.order(), ZERO);
            return;
        }
        int times = 0;
        boolean back = false;
        while (!back && times < 1000) {
            back = true;
            times++;
            for (int p = 0; p < n; p++) {
                at[p] = to[at[p]];
                back &= at[p] == p;
            }
        }
        due(what, x.order(), times);
    }

    private static int prime(int q) {
        return q == 9 ? 3 : q % 2 == 0 ? 2 : q;
    }

    private static void fixedPoints() {
        for (int q : QS) {
            due("the first map", of(q).fixed(), many(q));
            due("zeros: what goes to 0, 0, 0 goes not to itself",
                    withMap(q, 0, 0, 0, 0, 0, 0, 0, 0, 0).fixed(), 0);
            due("a point goes to 0, 0, 0", withMap(q, 1, 0, 0, 0, 1, 0, 0, 0, 0).fixed(), q + 1);
            due("a line goes to 0, 0, 0", withMap(q, 0, 0, 0, 0, 0, 0, 0, 0, 1).fixed(), 1);
            due("a shear", withMap(q, 1, 0, 1, 0, 1, 0, 0, 0, 1).fixed(), q + 1);
        }
        due("q 2: one ring", withMap(2, 0, 0, 1, 1, 0, 1, 0, 1, 0).fixed(), 0);
    }

    private static void inverts() {
        for (int q : QS) {
            FinitePlanes x = withMap(q, 0, 1, q - 1, 1, 0, 0, 0, 0, 0);
            due("determinant 0", x.invert(), ZERO);
            mapIs("is left, not told", x, 0, 1, q - 1, 1, 0, 0, 0, 0, 0);
            x = withMap(q, q - 1, 0, 0, 0, q - 1, 0, 0, 0, 0);
            due("determinant 0, first not 1", x.invert(), ZERO);
            mapIs("is left, not told", x, q - 1, 0, 0, 0, q - 1, 0, 0, 0, 0);
            x = withMap(q, q - 1, 1, 0, 0, 1, 1, 0, 0, 1);
            int[] to = new int[many(q)];
            for (int p = 0; p < to.length; p++) {
                to[p] = x.image(p);
            }
            due("determinant not 0", x.invert(), 1);
            for (int p = 0; p < to.length; p++) {
                due("goes back", x.image(to[p]), p);
            }
            due("told", x.entry(0, 0), 1);
        }
    }

    private static void moves() {
        for (int q : QS) {
            int n = many(q);
            FinitePlanes x = of(q);
            due("none", x.move(), 0);
            x = withAll(q);
            due("all stay", x.move(), n);
            x.entry(8, 0);
            due("those that go to 0, 0, 0 go out, others meet", x.move(), q + 1);
            due("the first has gone", x.member(0), 1);
            x.entry(0, 0);
            x.entry(4, 0);
            due("all go out", x.move(), 0);
            due("none is there", x.member(0), NONE);
            x = withAll(q);
            x.entry(0, 0);
            x.entry(1, 1);
            x.entry(4, 0);
            x.entry(3, 1);
            x.put(1, false);
            due("two change places, one had been out", x.move(), n - 1);
            due("now the other is out", x.put(q + 1, false), 0);
            due("it is in", x.put(1, false), 1);
            x = with(q, 0);
            x.entry(8, 0);
            due("the only one goes out", x.move(), 0);
        }
    }

    private static void framesToFrames() {
        for (int q : QS) {
            int n = many(q);
            int e = of(q).number(1, 1, 1);
            int[][] frames = {{0, 1, q + 1, e}, {q + 1, 1, 0, e}, {e, q + 1, 1, 0}, {1, e, 0, q + 1}};
            for (int[] f : frames) {
                FinitePlanes x = withMap(q, 0, 0, 0, 0, 0, 0, 0, 0, 0);
                due("also from zeros", x.frame(f[0], f[1], f[2], f[3]), 1);
                due("(1, 0, 0)", x.image(q + 1), f[0]);
                due("(0, 1, 0)", x.image(1), f[1]);
                due("(0, 0, 1)", x.image(0), f[2]);
                due("(1, 1, 1)", x.image(e), f[3]);
                due("all go to all", x.determinant() != 0 ? 1 : 0, 1);
                int first = 0;
                for (int k = 0; k < 9; k++) {
                    int v = x.entry(k, 0);
                    first = first == 0 ? v : first;
                }
                due("told", first, 1);
                due("BAD", x.frame(f[0], f[1], f[2], n), BAD);
                due("NONE", x.frame(f[0], f[1], f[2], f[2]), NONE);
            }
        }
    }

    private static void behindOrder() {
        for (int q : QS) {
            int e = of(q).number(1, 1, 1);
            FinitePlanes x = withMap(q, 1, 1, 0, 0, 1, 0, 0, 0, 1);
            int[] f = {e, 0, q + 1, 1};
            int[] to = {x.image(f[0]), x.image(f[1]), x.image(f[2]), x.image(f[3])};
            due("behind", x.behind(f[0], f[1], f[2], f[3]), 1);
            due("(1, 0, 0) goes to a, then on", x.image(q + 1), to[0]);
            due("(0, 1, 0) goes to b, then on", x.image(1), to[1]);
            due("(0, 0, 1) goes to c, then on", x.image(0), to[2]);
            due("(1, 1, 1) goes to d, then on", x.image(e), to[3]);
            x = withMap(q, 1, 1, 0, 0, 1, 0, 0, 0, 0);
            due("BAD first", x.behind(0, 0, 0, many(q)), BAD);
            due("NONE then", x.behind(0, 0, 0, 0), NONE);
            due("ZERO last", x.behind(0, 1, q + 1, e), ZERO);
            mapIs("as it was", x, 1, 1, 0, 0, 1, 0, 0, 0, 0);
        }
    }

    private static void ratiosRefused() {
        for (int q : QS) {
            int n = many(q);
            boolean[][] on = lines(q);
            for (int c = 0; c < n; c += 3) {
                FinitePlanes x = of(q);
                int a = q + 1;
                int b = n - 1;
                int l = x.join(a, b);
                for (int d = 0; d < n; d++) {
                    boolean fits = c != a && c != b && on[l][c] && on[l][d];
                    int ratio = x.ratio(a, b, c, d);
                    due(c + ", " + d, ratio < 0 ? ratio : 0, fits ? 0 : NONE);
                }
                due("a = b", x.ratio(a, a, c, c), NONE);
                due("a = b = c", x.ratio(a, a, a, a), NONE);
                due("n", x.ratio(a, a, a, n), BAD);
            }
        }
    }

    // ---- promises 28 to 31

    private static void tables() {
        for (int w = 1; w <= 13; w++) {
            FinitePlanes x = new FinitePlanes();
            x.table(14 - w);
            for (int k = 0; k < 14 - w; k++) {
                x.mark(k, k, true);
            }
            due("the w it was", x.table(w), 14 - w);
            due("nothing on anything", x.count(7), 0);
            for (int k = 0; k < w; k++) {
                due("mark(k, k)", x.mark(k, k, true), 0);
            }
            due("the same w", x.table(w), w);
            due("nothing on anything again", x.count(7), 0);
            due("larger", x.table(13), w);
            due("nothing is kept", x.count(7), 0);
        }
    }

    private static void marks() {
        for (int w = 1; w <= 13; w++) {
            FinitePlanes x = new FinitePlanes();
            x.table(w);
            due("is not on", x.mark(w - 1, 0, false), 0);
            due("comes on", x.mark(w - 1, 0, true), 0);
            due("is on", x.mark(w - 1, 0, true), 1);
            due("the other way round is another", x.mark(0, w - 1, true), w == 1 ? 1 : 0);
            due("goes", x.mark(w - 1, 0, false), 1);
            due("is gone", x.mark(w - 1, 0, false), 0);
            due("the other stays", x.count(7), w == 1 ? 0 : 1);
            for (int out : new int[] {LEAST, -32, -1, w, w + 32, MOST}) {
                due("line " + out, x.mark(out, 0, true), BAD);
                due("point " + out, x.mark(0, out, true), BAD);
            }
        }
    }

    private static void toldTables() {
        for (int q : QS) {
            FinitePlanes x = of(q);
            x.table(13);
            x.mark(12, 0, true);
            due("q " + q, x.told(), q > 3 ? BAD : many(q));
            due("q " + q + ": w", x.count(6), q == 2 ? 7 : 13);
            due("q " + q + ": how many", x.count(7), q > 3 ? 1 : (q + 1) * many(q));
            if (q <= 3) {
                due("q " + q + ": a plane", x.flaw(), 0);
                due("q " + q + ": again", x.told(), many(q));
            }
            for (int at = 0; q <= 3 && at < many(q) * many(q); at++) {
                int l = at / many(q);
                int p = at % many(q);
                due("q " + q + ": " + p + " on " + l, x.mark(l, p, true), x.on(p, l));
            }
        }
    }

    private static void whatItIsAndTerms() {
        sentence("NUMBERS are 0 .. q - 1", BoundaryTest::numbers);
        sentence("q one of 2, 3, 4, 5, 7, 8, 9.", BoundaryTest::whichQ);
        sentence("q a prime: sums and products modulo q.", BoundaryTest::primes);
        sentence("q 4 and 8: rows of bits, sums bit by bit", BoundaryTest::bitByBit);
        sentence("t t being t + 1 (q 4)", () -> powersOfT(4, 1, 2, 3));
        sentence("t t t being t + 1 (q 8)", () -> powersOfT(8, 1, 2, 4, 3, 6, 7, 5));
        sentence("q 9: a + 3 b stands for a + b i, i i being 2, all modulo 3.", BoundaryTest::nine);
        sentence("An object is used for at most 512 calls after it has been made", BoundaryTest::calls512);
        sentence("POINTS are triples of NUMBERS, not all 0", BoundaryTest::notAllZero);
        sentence("those that are multiples of one another are one", BoundaryTest::multiplesAreOne);
        sentence("numbered from 0 on by these in their order", BoundaryTest::inTheirOrder);
        sentence("there are n = q q + q + 1.", BoundaryTest::howManyPoints);
        sentence("is ON a LINE (a, b, c), if a x + b y + c z is 0.", BoundaryTest::onALine);
        sentence("An ARC has no three POINTS ON a LINE.", BoundaryTest::noThreeOnALine);
        sentence("It is COMPLETE, if no other POINT can come to it so.", BoundaryTest::complete);
        sentence("of these that whose least POINT that is not in THE SET is least", BoundaryTest::greatestArcs);
        sentence("of those that have THE SET in them the ones of most POINTS", BoundaryTest::greatestIsItself);
        sentence("THE SET BLOCKS, if each LINE has a POINT of it ON it", BoundaryTest::blocking);
        sentence("a POINT of it is SPARE, if without it THE SET BLOCKS, too.", BoundaryTest::spare);
        sentence("two different LINES meet that each have two POINTS of what is there already (again and again)",
                BoundaryTest::closures);
        sentence("A CURVE has six NUMBERS, not all 0", BoundaryTest::curves);
        sentence("at first 1, 0, 0, 0, 1, 0, 0, 0, 1", BoundaryTest::mapAtFirst);
        sentence("Its DETERMINANT is", BoundaryTest::determinants);
        sentence("It is TOLD as the multiple whose first NUMBER that is not 0 is 1.", BoundaryTest::toldWithFirstOne);
        sentence("FOUR POINTS are a FRAME, if no three of them are ON a LINE", BoundaryTest::framesAreFour);
        sentence("s v / (t u); q, if t is 0.", BoundaryTest::ratios);
        sentence("A TABLE has w POINTS and w LINES, w 1 .. 13", BoundaryTest::tableSizes);
        sentence("THE FLAW: 0, if it is a PLANE", BoundaryTest::planes);
        sentence("LINES a < b have not just one POINT together", BoundaryTest::flawOfLines);
        sentence("POINTS a < b, not just one LINE", BoundaryTest::flawOfPoints);
        sentence("3000: no FRAME", BoundaryTest::noFrame);
        sentence("first a least, then b", BoundaryTest::leastAThenB);
    }

    private static void promises1To17() {
        sentence("a TABLE of one POINT and one LINE, not ON it.", BoundaryTest::newObject);
        sentence("Another q; THE SET is empty, the MAP as at first: the q it was.", BoundaryTest::begun);
        sentence("ZERO: by 0; BAD.", BoundaryTest::byZero);
        sentence("NUMBER 0 .. 2 of a POINT (or LINE) as it is told.", BoundaryTest::partsOfTriples);
        sentence("BAD: also both are the same.", BoundaryTest::joinOfTheSame);
        sentence("NONE: there are not so many; BAD: the LINE.", BoundaryTest::rowEnds);
        sentence("whether it was in (1 or 0).", BoundaryTest::putInAndOut);
        sentence("POINT k of THE SET by rising numbers; NONE.", BoundaryTest::members);
        sentence("What = 0 q, 1 n, 2 POINTS in THE SET", BoundaryTest::counts);
        sentence("that could come to THE SET so that it is an ARC (0, if it is none)", BoundaryTest::newcomers);
        sentence("7 which are ON which in the TABLE, in all.", BoundaryTest::tableCounts);
        sentence("How many LINES have just k POINTS of THE SET.", BoundaryTest::meetings);
        sentence("what = 0 is an ARC, 1 a COMPLETE one, 2 BLOCKS", BoundaryTest::isWhat);
        sentence("3 is its own CLOSURE (1 or 0).", BoundaryTest::ownClosure);
        sentence("k = -1: how many it has. NONE: there is none such", BoundaryTest::greatestK);
        sentence("or THE SET is no ARC", BoundaryTest::greatestOfNoArc);
        sentence("BAD: q is above 5.", BoundaryTest::greatestAboveFive);
        sentence("POINT k by rising numbers of THE CLOSURE; NONE.", BoundaryTest::closureEnds);
        sentence("THE SET has five POINTS", BoundaryTest::throughSizes);
        sentence("no four of them ON a LINE", BoundaryTest::noFourOnALine);
        sentence("as told with a first NUMBER of 1 among those that are not 0.", BoundaryTest::theOneCurve);
        sentence("NONE: THE SET is not so; BAD: k.", BoundaryTest::throughK);
    }

    private static void promises18To31() {
        sentence("NUMBER k of the MAP becomes v: what it was. BAD.", BoundaryTest::entries);
        sentence("Where a POINT goes. ZERO: to 0, 0, 0; BAD.", BoundaryTest::images);
        sentence("at least once, until all POINTS are where they were", BoundaryTest::orders);
        sentence("how often at the least. ZERO: its DETERMINANT is 0.", BoundaryTest::ordersByTrial);
        sentence("How many POINTS go to themselves.", BoundaryTest::fixedPoints);
        sentence("The MAP goes to its inverse, as TOLD: 1. ZERO.", BoundaryTest::inverts);
        sentence("(those that go to 0, 0, 0 go out): how many there are.", BoundaryTest::moves);
        sentence("to a, b, c, d, as TOLD: 1. BAD; NONE: they are no FRAME.", BoundaryTest::framesToFrames);
        sentence("BAD; NONE: they are no FRAME; ZERO: the DETERMINANT is 0.", BoundaryTest::behindOrder);
        sentence("THE RATIO. BAD; NONE: they are not as they must be.", BoundaryTest::ratiosRefused);
        sentence("A TABLE of w, nothing ON anything: the w it was. BAD.", BoundaryTest::tables);
        sentence("In the TABLE a POINT is ON a LINE, or not: whether it was (1 or 0). BAD.", BoundaryTest::marks);
        sentence("its POINTS and LINES by their numbers: w. BAD: q is above 3.", BoundaryTest::toldTables);
    }

    public static void main(String[] args) {
        whatItIsAndTerms();
        promises1To17();
        promises18To31();
        System.out.println(sentences + " sentences, " + checks + " checks, " + wrong + " are not as due");
        if (wrong != 0) {
            System.exit(1);
        }
    }
}
