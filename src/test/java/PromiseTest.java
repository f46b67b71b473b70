/**
 * Promise by promise: what is ordinary, the edges that the document names, and what is refused.
 * No object here is used for more than 512 calls.
 */
public final class PromiseTest {
    private static final int NONE = FinitePlanes.NONE, BAD = FinitePlanes.BAD, ZERO = FinitePlanes.ZERO;
    private static final int LEAST = Integer.MIN_VALUE, MOST = Integer.MAX_VALUE;
    private static final int[] QS = {2, 3, 4, 5, 7, 8, 9};
    private static final int[] OUTSIDE = {LEAST, -1000, -1, MOST};
    private static int checks = 0;
    private static int wrong = 0;

    private static void due(String what, int got, int want) {
        checks++;
        if (got != want) {
            wrong++;
            System.out.println(what + " answered " + got + ", due is " + want);
        }
    }

    private static FinitePlanes of(int q) {
        FinitePlanes x = new FinitePlanes();
        x.begin(q);
        return x;
    }

    private static void putAll(FinitePlanes x, int... points) {
        for (int p : points) {
            x.put(p, true);
        }
    }

    private static void setIs(String what, FinitePlanes x, int... points) {
        due(what + ": size", x.count(2), points.length);
        for (int k = 0; k < points.length; k++) {
            due(what + ": member " + k, x.member(k), points[k]);
        }
        due(what + ": behind the last member", x.member(points.length), NONE);
    }

    /** Reads each number by putting another one there and that one back. */
    private static void mapIs(String what, FinitePlanes x, int... numbers) {
        for (int k = 0; k < 9; k++) {
            int was = x.entry(k, 0);
            x.entry(k, was);
            due(what + ": m" + k, was, numbers[k]);
        }
    }

    private static void setMap(FinitePlanes x, int... numbers) {
        for (int k = 0; k < 9; k++) {
            x.entry(k, numbers[k]);
        }
    }

    private static void setTable(FinitePlanes x, int w, String... lines) {
        x.table(w);
        for (int l = 0; l < lines.length; l++) {
            for (int p = 0; p < lines[l].length(); p++) {
                x.mark(l, p, lines[l].charAt(p) == '1');
            }
        }
    }

    private static void constants() {
        due("NONE", NONE, -1);
        due("BAD", BAD, -2);
        due("ZERO", ZERO, -3);
    }

    private static void promise1NewObject() {
        FinitePlanes x = new FinitePlanes();
        due("new: q", x.count(0), 2);
        due("new: n", x.count(1), 7);
        setIs("new: the set", x);
        mapIs("new: the map", x, 1, 0, 0, 0, 1, 0, 0, 0, 1);
        due("new: w", x.count(6), 1);
        due("new: marks", x.count(7), 0);
        due("new: mark(0, 0)", x.mark(0, 0, false), 0);
        due("new: no second line", x.mark(1, 0, true), BAD);
        due("new: flaw", x.flaw(), 3000);
        FinitePlanes other = of(5);
        other.put(3, true);
        due("objects share nothing: q", x.count(0), 2);
        due("objects share nothing: the set", x.count(2), 0);
    }

    private static void promise2Begin() {
        FinitePlanes x = new FinitePlanes();
        int before = 2;
        for (int q : QS) {
            due("begin(" + q + ")", x.begin(q), before);
            due("begin(" + q + "): q", x.count(0), q);
            due("begin(" + q + "): n", x.count(1), q * q + q + 1);
            due("begin(" + q + "): highest number", x.reckon(0, q - 1, 0), q - 1);
            due("begin(" + q + "): no higher number", x.reckon(0, q, 0), BAD);
            before = q;
        }
        x.begin(3);
        putAll(x, 1, 5);
        x.entry(1, 2);
        x.table(4);
        x.mark(1, 2, true);
        for (int q : new int[] {LEAST, -2, -1, 0, 1, 6, 10, 11, 13, 16, 25, 27, MOST}) {
            due("begin(" + q + ")", x.begin(q), BAD);
        }
        due("after BAD: q", x.count(0), 3);
        setIs("after BAD: the set", x, 1, 5);
        mapIs("after BAD: the map", x, 1, 2, 0, 0, 1, 0, 0, 0, 1);
        due("begin(3) again", x.begin(3), 3);
        setIs("after begin: the set", x);
        mapIs("after begin: the map", x, 1, 0, 0, 0, 1, 0, 0, 0, 1);
        due("after begin: w", x.count(6), 4);
        due("after begin: the mark", x.mark(1, 2, true), 1);
        x.begin(9);
        putAll(x, 90, 45);
        x.begin(2);
        x.begin(9);
        setIs("through another q: the set", x);
    }

    private static void reckons(int q, int how, int[] sums) {
        FinitePlanes x = of(q);
        for (int i = 0; i < sums.length; i += 3) {
            due("q " + q + ": reckon(" + how + ", " + sums[i] + ", " + sums[i + 1] + ")",
                    x.reckon(how, sums[i], sums[i + 1]), sums[i + 2]);
        }
    }

    private static void promise3Reckon() {
        reckons(2, 0, new int[] {1, 1, 0, 0, 1, 1});
        reckons(3, 1, new int[] {1, 2, 2, 0, 1, 2});
        reckons(4, 0, new int[] {2, 3, 1, 3, 3, 0, 1, 2, 3});
        reckons(4, 1, new int[] {2, 3, 1, 0, 3, 3});
        reckons(4, 2, new int[] {2, 2, 3, 2, 3, 1, 3, 3, 2, 1, 3, 3, 0, 3, 0});
        reckons(4, 3, new int[] {1, 2, 3, 3, 2, 2});
        reckons(5, 2, new int[] {3, 4, 2, 4, 4, 1});
        reckons(5, 3, new int[] {1, 2, 3, 3, 4, 2});
        reckons(7, 0, new int[] {5, 6, 4});
        reckons(7, 1, new int[] {2, 5, 4});
        reckons(7, 2, new int[] {3, 5, 1, 6, 6, 1});
        reckons(7, 3, new int[] {3, 5, 2, 0, 5, 0});
        reckons(8, 0, new int[] {5, 6, 3, 7, 7, 0});
        reckons(8, 2, new int[] {2, 2, 4, 2, 4, 3, 4, 4, 6, 7, 7, 3, 5, 2, 1});
        reckons(8, 3, new int[] {1, 2, 5, 3, 4, 2});
        reckons(9, 0, new int[] {4, 8, 0, 5, 5, 7, 3, 6, 0, 2, 2, 1});
        reckons(9, 1, new int[] {0, 4, 8, 3, 1, 5});
        reckons(9, 2, new int[] {3, 3, 2, 4, 4, 6, 6, 6, 2, 2, 3, 6});
        reckons(9, 3, new int[] {1, 3, 6, 6, 4, 4});
        for (int q : QS) {
            fieldLaws(q);
            FinitePlanes x = of(q);
            for (int a = 0; a < q; a++) {
                due("q " + q + ": " + a + " by 0", x.reckon(3, a, 0), ZERO);
            }
            for (int out : new int[] {LEAST, -1, q, MOST}) {
                for (int how = 0; how < 4; how++) {
                    due("reckon of no number", x.reckon(how, out, 0), BAD);
                    due("reckon with no number", x.reckon(how, 0, out), BAD);
                }
            }
            for (int how : new int[] {LEAST, -1, 4, MOST}) {
                due("reckon in no way", x.reckon(how, 1, 0), BAD);
            }
        }
    }

    private static void fieldLaws(int q) {
        for (int a = 0; a < q; a++) {
            for (int b = 0; b < q; b++) {
                FinitePlanes x = of(q);
                due("a + b = b + a", x.reckon(0, a, b), x.reckon(0, b, a));
                due("a b = b a", x.reckon(2, a, b), x.reckon(2, b, a));
                due("(a - b) + b = a", x.reckon(0, x.reckon(1, a, b), b), a);
                if (b != 0) {
                    due("(a / b) b = a", x.reckon(2, x.reckon(3, a, b), b), a);
                }
                for (int c = 0; c < q; c++) {
                    due("a (b + c)", x.reckon(2, a, x.reckon(0, b, c)),
                            x.reckon(0, x.reckon(2, a, b), x.reckon(2, a, c)));
                    due("a (b c)", x.reckon(2, a, x.reckon(2, b, c)), x.reckon(2, x.reckon(2, a, b), c));
                }
            }
        }
    }

    private static void tripleIs(FinitePlanes x, int p, int a, int b, int c) {
        due("triple " + p + ", 0", x.triple(p, 0), a);
        due("triple " + p + ", 1", x.triple(p, 1), b);
        due("triple " + p + ", 2", x.triple(p, 2), c);
    }

    private static void promise4Triple() {
        FinitePlanes x = of(3);
        tripleIs(x, 0, 0, 0, 1);
        tripleIs(x, 1, 0, 1, 0);
        tripleIs(x, 3, 0, 1, 2);
        tripleIs(x, 4, 1, 0, 0);
        tripleIs(x, 7, 1, 1, 0);
        tripleIs(x, 12, 1, 2, 2);
        x.begin(9);
        tripleIs(x, 9, 0, 1, 8);
        tripleIs(x, 10, 1, 0, 0);
        tripleIs(x, 90, 1, 8, 8);
        due("triple(91, 0)", x.triple(91, 0), BAD);
        x.begin(2);
        due("triple(6, 2)", x.triple(6, 2), 1);
        due("triple(7, 0)", x.triple(7, 0), BAD);
        for (int out : OUTSIDE) {
            due("triple of no point", x.triple(out, 0), BAD);
            due("triple's no number", x.triple(0, out), BAD);
        }
        due("triple(0, 3)", x.triple(0, 3), BAD);
    }

    private static void promise5Number() {
        for (int q : QS) {
            FinitePlanes x = of(q);
            for (int p = 0; p < q * q + q + 1; p++) {
                x = of(q);
                for (int k = 1; k < q; k++) {
                    due("q " + q + ": number of " + k + " times " + p, x.number(x.reckon(2, k, x.triple(p, 0)),
                            x.reckon(2, k, x.triple(p, 1)), x.reckon(2, k, x.triple(p, 2))), p);
                }
            }
            due("number(0, 0, 0)", x.number(0, 0, 0), ZERO);
            for (int out : new int[] {LEAST, -1, q, MOST}) {
                due("number(out, 0, 0)", x.number(out, 0, 0), BAD);
                due("number(0, out, 0)", x.number(0, out, 0), BAD);
                due("number(0, 0, out)", x.number(0, 0, out), BAD);
            }
        }
        due("q 3: (2, 1, 0) is (1, 2, 0)", of(3).number(2, 1, 0), 10);
        due("q 4: (2, 3, 1) is (1, 2, 3)", of(4).number(2, 3, 1), 5 + 8 + 3);
        due("q 5: (0, 3, 1) is (0, 1, 2)", of(5).number(0, 3, 1), 3);
    }

    private static void promise6On() {
        FinitePlanes x = of(5);
        due("(1, 2, 3) on (1, 1, 4)", x.on(x.number(1, 2, 3), x.number(1, 1, 4)), 1);
        due("(1, 2, 3) on (1, 1, 1)", x.on(x.number(1, 2, 3), x.number(1, 1, 1)), 0);
        x.begin(9);
        due("(1, i, 0) on itself", x.on(x.number(1, 3, 0), x.number(1, 3, 0)), 1);
        for (int q : QS) {
            x.begin(q);
            int n = q * q + q + 1;
            int all = 0;
            for (int p = 0; p < n; p++) {
                x = of(q);
                for (int l = 0; l < n; l++) {
                    all += x.on(p, l);
                }
            }
            due("q " + q + ": which are on which, in all", all, n * (q + 1));
            for (int out : new int[] {LEAST, -1, n, MOST}) {
                due("on(out, 0)", x.on(out, 0), BAD);
                due("on(0, out)", x.on(0, out), BAD);
            }
        }
    }

    private static void promise7Join() {
        for (int q : QS) {
            FinitePlanes x = of(q);
            int n = q * q + q + 1;
            for (int p = 0; p < n; p++) {
                x = of(q);
                for (int r = 0; r < n; r++) {
                    int l = x.join(p, r);
                    if (p == r) {
                        due("join of the same", l, BAD);
                    } else {
                        due("join: the first is on it", x.on(p, l), 1);
                        due("join: the second is on it", x.on(r, l), 1);
                    }
                }
            }
            for (int out : new int[] {LEAST, -1, n, MOST}) {
                due("join(out, 0)", x.join(out, 0), BAD);
                due("join(0, out)", x.join(0, out), BAD);
                due("join(out, out)", x.join(out, out), BAD);
            }
        }
        due("q 2: join(0, 1)", of(2).join(0, 1), 3);
    }

    private static void promise8Row() {
        FinitePlanes x = of(2);
        int[] first = {1, 3, 5};
        for (int k = 0; k < 3; k++) {
            due("q 2: row(0, " + k + ")", x.row(0, k), first[k]);
        }
        for (int q : QS) {
            x.begin(q);
            int n = q * q + q + 1;
            for (int l = 0; l < n; l++) {
                x = of(q);
                int before = -1;
                for (int k = 0; k <= q; k++) {
                    int p = x.row(l, k);
                    due("row: on the line", x.on(p, l), 1);
                    due("row: rising", p > before ? 1 : 0, 1);
                    before = p;
                }
                due("row: not so many", x.row(l, q + 1), NONE);
                due("row: none before the first", x.row(l, -1), NONE);
            }
            due("row(0, MOST)", x.row(0, MOST), NONE);
            due("row(0, LEAST)", x.row(0, LEAST), NONE);
            for (int out : new int[] {LEAST, -1, n, MOST}) {
                due("row of no line", x.row(out, 0), BAD);
                due("row of no line, not so many", x.row(out, 99), BAD);
            }
        }
    }

    private static void promise9Put() {
        FinitePlanes x = of(3);
        due("put(12) comes in", x.put(12, true), 0);
        due("put(12) is in", x.put(12, true), 1);
        due("put(0) comes in", x.put(0, true), 0);
        for (int out : new int[] {LEAST, -1, 13, MOST}) {
            due("put(out, true)", x.put(out, true), BAD);
            due("put(out, false)", x.put(out, false), BAD);
        }
        setIs("put", x, 0, 12);
        due("put(12) goes out", x.put(12, false), 1);
        due("put(12) is out", x.put(12, false), 0);
        setIs("put", x, 0);
    }

    private static void promise10Member() {
        FinitePlanes x = of(9);
        due("member(0) of none", x.member(0), NONE);
        putAll(x, 90, 3, 45, 0);
        setIs("member", x, 0, 3, 45, 90);
        for (int out : OUTSIDE) {
            due("member(out)", x.member(out), NONE);
        }
    }

    private static void promise11Count() {
        FinitePlanes x = of(3);
        putAll(x, 0, 1, 4);
        due("count(0)", x.count(0), 3);
        due("count(1)", x.count(1), 13);
        due("count(2)", x.count(2), 3);
        due("count(3): does not block", x.count(3), 0);
        due("count(4): a triangle is closed", x.count(4), 3);
        due("count(5): frames with it", x.count(5), 4);
        x.table(5);
        x.mark(4, 4, true);
        x.mark(4, 3, true);
        due("count(6)", x.count(6), 5);
        due("count(7)", x.count(7), 2);
        x.mark(4, 4, false);
        due("count(7): one less", x.count(7), 1);
        x.told();
        due("count(6): the plane's", x.count(6), 13);
        due("count(7): the plane's", x.count(7), 52);
        for (int out : new int[] {LEAST, -1, 8, MOST}) {
            due("count(out)", x.count(out), BAD);
        }
        countSpares();
        countNewcomers();
    }

    private static void countSpares() {
        FinitePlanes x = of(3);
        for (int k = 0; k < 4; k++) {
            x.put(x.row(5, k), true);
        }
        due("a line has no spare point", x.count(3), 0);
        int more = x.row(5, 0) == 0 ? 1 : 0;
        x.put(more, true);
        due("a point beside a line is spare, those on it are not", x.count(3), 1);
        for (int p = 0; p < 13; p++) {
            x.put(p, true);
        }
        due("all points are spare", x.count(3), 13);
        x.put(x.row(0, 0), false);
        x.put(x.row(0, 1), false);
        x.put(x.row(0, 2), false);
        due("the last one on a line is not", x.count(3), 9);
    }

    private static void countNewcomers() {
        FinitePlanes x = of(4);
        due("count(5) of none", x.count(5), 21);
        x.put(7, true);
        due("count(5) of one", x.count(5), 20);
        x.put(8, true);
        due("count(5) of two", x.count(5), 16);
        x.begin(2);
        putAll(x, 1, 3, 5);
        due("count(5) of a line", x.count(5), 0);
        x.begin(5);
        putAll(x, 0, 1, 2);
        due("count(5): no arc", x.count(5), 0);
    }

    private static void promise12Meets() {
        FinitePlanes x = of(5);
        due("meets(0) of none", x.meets(0), 31);
        x.put(0, true);
        due("meets(1) of one", x.meets(1), 6);
        due("meets(0) of one", x.meets(0), 25);
        x.curve(1, 1, 1, 0, 0, 0);
        int[] conic = {10, 6, 15, 0, 0, 0, 0};
        for (int k = 0; k < conic.length; k++) {
            due("meets(" + k + ") of a conic", x.meets(k), conic[k]);
        }
        for (int p = 0; p < 31; p++) {
            x.put(p, true);
        }
        due("meets(6) of all", x.meets(6), 31);
        for (int out : OUTSIDE) {
            due("meets(out)", x.meets(out), 0);
        }
    }

    private static void isAll(String what, FinitePlanes x, int arc, int complete, int blocks, int closed) {
        due(what + " is an arc", x.is(0), arc);
        due(what + " is complete", x.is(1), complete);
        due(what + " blocks", x.is(2), blocks);
        due(what + " is closed", x.is(3), closed);
    }

    private static void promise13Is() {
        FinitePlanes x = of(4);
        isAll("nothing", x, 1, 0, 0, 1);
        putAll(x, 0, 1, 5);
        isAll("a triangle", x, 1, 0, 0, 1);
        x.put(x.number(1, 1, 1), true);
        isAll("a frame", x, 1, 0, 0, 0);
        x.put(x.number(1, 2, 3), true);
        isAll("five of an arc", x, 1, 0, 0, 0);
        x.put(x.number(1, 3, 2), true);
        isAll("six of an arc", x, 1, 1, 0, 0);
        x.put(20, true);
        isAll("no arc", x, 0, 0, 0, 0);
        x.begin(4);
        for (int k = 0; k < 5; k++) {
            x.put(x.row(9, k), true);
        }
        isAll("a line", x, 0, 0, 1, 1);
        for (int p = 0; p < 21; p++) {
            x.put(p, true);
        }
        isAll("all", x, 0, 0, 1, 1);
        x.begin(7);
        x.curve(1, 1, 1, 0, 0, 0);
        isAll("a conic of q 7", x, 1, 1, 0, 0);
        x.begin(8);
        x.curve(1, 0, 0, 1, 0, 0);
        isAll("a conic of q 8", x, 1, 0, 0, 0);
        for (int out : new int[] {LEAST, -1, 4, MOST}) {
            due("is(out)", x.is(out), BAD);
        }
    }

    private static void greatestIs(String what, FinitePlanes x, int... points) {
        due(what + ": size", x.greatest(-1), points.length);
        for (int k = 0; k < points.length; k++) {
            due(what + ": point " + k, x.greatest(k), points[k]);
        }
        due(what + ": behind the last", x.greatest(points.length), NONE);
        due(what + ": -2", x.greatest(-2), NONE);
        due(what + ": LEAST", x.greatest(LEAST), NONE);
        due(what + ": MOST", x.greatest(MOST), NONE);
    }

    private static void promise14Greatest() {
        FinitePlanes x = of(2);
        greatestIs("q 2, of none", x, 0, 1, 3, 6);
        x.put(6, true);
        greatestIs("q 2, of 6", x, 0, 1, 3, 6);
        x.begin(3);
        greatestIs("q 3, of none", x, 0, 1, 4, 8);
        x.begin(4);
        greatestIs("q 4, of none", x, 0, 1, 5, x.number(1, 1, 1), x.number(1, 2, 3), x.number(1, 3, 2));
        x.put(20, true);
        due("q 4, of 20: the least that can come to it", x.greatest(0), 0);
        due("q 4, of 20: it is in", x.greatest(5), 20);
        putAll(x, 19, 16);
        int size = 0;
        int before = -1;
        for (int k = 0; k < 6; k++) {
            int p = x.greatest(k);
            size += p == 16 || p == 19 || p == 20 ? 1 : 0;
            due("q 4, of three: rising", p > before ? 1 : 0, 1);
            before = p;
        }
        due("q 4, of three: they are in", size, 3);
        x.begin(5);
        due("q 5: size", x.greatest(-1), 6);
        x.curve(1, 1, 1, 0, 0, 0);
        int kept = x.member(5);
        x.put(kept, false);
        due("q 5: five make the curve whole", x.greatest(-1), 6);
        x.put(kept, true);
        for (int k = 0; k < 6; k++) {
            due("q 5: the curve's point " + k, x.greatest(k), x.member(k));
        }
        due("greatest changes no set", x.count(2), 6);
        x.put(0, true);
        due("no arc", x.greatest(0), NONE);
        due("no arc: size", x.greatest(-1), NONE);
        for (int q : new int[] {7, 8, 9}) {
            x.begin(q);
            due("q " + q + ": greatest(-1)", x.greatest(-1), BAD);
            due("q " + q + ": greatest(0)", x.greatest(0), BAD);
            for (int p = 0; p < 3; p++) {
                x.put(p, true);
            }
            due("q " + q + ": no arc", x.greatest(0), BAD);
        }
    }

    private static void closureIs(String what, FinitePlanes x, int... points) {
        due(what + ": size", x.count(4), points.length);
        for (int k = 0; k < points.length; k++) {
            due(what + ": point " + k, x.closure(k), points[k]);
        }
        due(what + ": behind the last", x.closure(points.length), NONE);
        for (int out : OUTSIDE) {
            due(what + ": out", x.closure(out), NONE);
        }
    }

    private static void promise15Closure() {
        FinitePlanes x = of(4);
        closureIs("of none", x);
        putAll(x, 3, 17);
        closureIs("of two", x, 3, 17);
        x.begin(4);
        putAll(x, 0, 1, 2, 3);
        closureIs("of four on a line", x, 0, 1, 2, 3);
        x.put(5, true);
        closureIs("of four on a line and one beside", x, 0, 1, 2, 3, 5);
        x.begin(4);
        putAll(x, 0, 1, 5, 10);
        closureIs("of a frame: the plane of q 2 in that of q 4", x, 0, 1, 2, 5, 6, 9, 10);
        due("closure changes no set", x.count(2), 4);
        x.put(3, true);
        due("of a frame and one more", x.count(4), 21);
        due("its last", x.closure(20), 20);
        x.begin(9);
        putAll(x, 0, 1, 10, x.number(1, 1, 1));
        due("q 9: the plane of q 3 in it", x.count(4), 13);
        x.begin(7);
        putAll(x, 0, 1, 8, x.number(1, 1, 1));
        due("q 7: all", x.count(4), 57);
    }

    private static void promise16Curve() {
        FinitePlanes x = of(3);
        due("x x + y y + z z", x.curve(1, 1, 1, 0, 0, 0), 4);
        setIs("x x + y y + z z", x, 8, 9, 11, 12);
        due("x x", x.curve(1, 0, 0, 0, 0, 0), 4);
        setIs("x x", x, 0, 1, 2, 3);
        due("y y", x.curve(0, 2, 0, 0, 0, 0), 4);
        setIs("y y", x, 0, 4, 5, 6);
        due("z z", x.curve(0, 0, 1, 0, 0, 0), 4);
        setIs("z z", x, 1, 4, 7, 10);
        due("y z", x.curve(0, 0, 0, 1, 0, 0), 7);
        setIs("y z", x, 0, 1, 4, 5, 6, 7, 10);
        due("x z", x.curve(0, 0, 0, 0, 1, 0), 7);
        setIs("x z", x, 0, 1, 2, 3, 4, 7, 10);
        due("x y", x.curve(0, 0, 0, 0, 0, 1), 7);
        setIs("x y", x, 0, 1, 2, 3, 4, 5, 6);
        due("ZERO", x.curve(0, 0, 0, 0, 0, 0), ZERO);
        for (int out : new int[] {LEAST, -1, 3, MOST}) {
            due("BAD a", x.curve(out, 0, 0, 0, 0, 0), BAD);
            due("BAD b", x.curve(0, out, 0, 0, 0, 0), BAD);
            due("BAD c", x.curve(0, 0, out, 0, 0, 0), BAD);
            due("BAD d", x.curve(0, 0, 0, out, 0, 0), BAD);
            due("BAD e", x.curve(0, 0, 0, 0, out, 0), BAD);
            due("BAD f", x.curve(0, 0, 0, 0, 0, out), BAD);
        }
        setIs("what is refused changes nothing", x, 0, 1, 2, 3, 4, 5, 6);
        due("one point", x.curve(1, 1, 0, 0, 0, 0), 1);
        setIs("one point", x, 0);
        x.begin(9);
        due("q 9: two lines", x.curve(1, 1, 0, 0, 0, 0), 19);
    }

    private static void throughIs(String what, FinitePlanes x, int... numbers) {
        for (int k = 0; k < 6; k++) {
            due(what + ": through(" + k + ")", x.through(k), numbers[k]);
        }
        for (int out : new int[] {LEAST, -1, 6, MOST}) {
            due(what + ": through(out)", x.through(out), BAD);
        }
    }

    private static void promise17Through() {
        FinitePlanes x = of(7);
        throughIs("none", x, NONE, NONE, NONE, NONE, NONE, NONE);
        x.curve(3, 5, 1, 2, 0, 6);
        int size = x.count(2);
        due("an arc", x.is(0), 1);
        due("of eight", size, 8);
        throughIs("eight points", x, NONE, NONE, NONE, NONE, NONE, NONE);
        for (int k = 0; k < 3; k++) {
            x.put(x.member(2), false);
        }
        throughIs("five of its points", x, 1, 4, 5, 3, 0, 2);
        due("through changes no set", x.count(2), 5);
        x.put(x.member(0), false);
        throughIs("four points", x, NONE, NONE, NONE, NONE, NONE, NONE);
        x.begin(3);
        putAll(x, 0, 1, 2, 4, 5);
        throughIs("x y: three on each of two lines", x, 0, 0, 0, 0, 0, 1);
        x.begin(3);
        putAll(x, 0, 1, 2, 3, 4);
        throughIs("four on a line", x, NONE, NONE, NONE, NONE, NONE, NONE);
        x.begin(9);
        x.curve(0, 0, 4, 1, 0, 7);
        int left = x.count(2) - 5;
        for (int k = 0; k < left; k++) {
            x.put(x.member(k % 5), false);
        }
        due("q 9: five points", x.count(2), 5);
        throughIs("q 9", x, 0, 0, 1, x.reckon(3, 1, 4), 0, x.reckon(3, 7, 4));
    }

    private static void promise18Entry() {
        FinitePlanes x = of(9);
        for (int k = 0; k < 9; k++) {
            due("entry(" + k + ") at first", x.entry(k, 8 - k), k % 4 == 0 ? 1 : 0);
        }
        for (int k = 0; k < 9; k++) {
            due("entry(" + k + ")", x.entry(k, k), 8 - k);
        }
        for (int out : OUTSIDE) {
            due("entry(out, 0)", x.entry(out, 0), BAD);
            due("entry(0, out)", x.entry(0, out), BAD);
        }
        due("entry(9, 0)", x.entry(9, 0), BAD);
        due("entry(8, 9)", x.entry(8, 9), BAD);
        mapIs("after BAD", x, 0, 1, 2, 3, 4, 5, 6, 7, 8);
    }

    private static void promise19Determinant() {
        FinitePlanes x = of(7);
        due("at first", x.determinant(), 1);
        setMap(x, 1, 2, 3, 4, 5, 6, 0, 1, 2);
        due("q 7, rows in a row", x.determinant(), 0);
        setMap(x, 2, 0, 1, 3, 1, 4, 5, 6, 0);
        // 2 (0 - 24) - 0 + 1 (18 - 5) = -35
        due("q 7: -35", x.determinant(), 0);
        setMap(x, 2, 1, 1, 3, 1, 4, 5, 6, 0);
        // -35 - 1 (0 - 20) = -15
        due("q 7: -15", x.determinant(), 6);
        setMap(x, 0, 1, 0, 1, 0, 0, 0, 0, 1);
        due("q 7: -1", x.determinant(), 6);
        x.begin(9);
        setMap(x, 3, 0, 0, 0, 3, 0, 0, 0, 3);
        due("q 9: i i i", x.determinant(), 6);
        x.begin(8);
        setMap(x, 2, 0, 0, 0, 0, 2, 0, 2, 0);
        due("q 8: t t t", x.determinant(), 3);
    }

    private static void promise20Image() {
        FinitePlanes x = of(5);
        for (int p = 0; p < 31; p++) {
            due("at first", x.image(p), p);
        }
        setMap(x, 1, 2, 3, 4, 0, 1, 2, 2, 2);
        due("(1, 0, 0)", x.image(x.number(1, 0, 0)), x.number(1, 4, 2));
        due("(0, 1, 0)", x.image(x.number(0, 1, 0)), x.number(2, 0, 2));
        due("(0, 0, 1)", x.image(x.number(0, 0, 1)), x.number(3, 1, 2));
        due("(1, 2, 4)", x.image(x.number(1, 2, 4)), x.number(2, 3, 4));
        setMap(x, 1, 0, 0, 0, 1, 0, 0, 0, 0);
        due("to 0, 0, 0", x.image(0), ZERO);
        due("beside it", x.image(x.number(1, 2, 3)), x.number(1, 2, 0));
        for (int out : new int[] {LEAST, -1, 31, MOST}) {
            due("image(out)", x.image(out), BAD);
        }
    }

    private static void promise21Order() {
        FinitePlanes x = of(2);
        due("at first", x.order(), 1);
        setMap(x, 0, 0, 1, 1, 0, 1, 0, 1, 0);
        due("q 2: all points in a ring", x.order(), 7);
        setMap(x, 1, 1, 0, 0, 1, 1, 0, 0, 1);
        due("q 2: four", x.order(), 4);
        setMap(x, 0, 1, 0, 0, 0, 1, 1, 0, 0);
        due("q 2: three", x.order(), 3);
        x.begin(5);
        setMap(x, 3, 0, 0, 0, 3, 0, 0, 0, 3);
        due("q 5: a multiple", x.order(), 1);
        setMap(x, 1, 0, 0, 0, 2, 0, 0, 0, 1);
        due("q 5: 2 has four powers", x.order(), 4);
        setMap(x, 1, 0, 0, 0, 1, 0, 0, 0, 2);
        due("q 5: 2 at the end", x.order(), 4);
        setMap(x, 4, 0, 0, 0, 1, 0, 0, 0, 1);
        due("q 5: 4 has two powers", x.order(), 2);
        setMap(x, 1, 1, 0, 0, 1, 0, 0, 0, 1);
        due("q 5: a shear", x.order(), 5);
        setMap(x, 2, 1, 0, 0, 2, 0, 0, 0, 1);
        due("q 5: a shear and a stretch", x.order(), 20);
        setMap(x, 1, 0, 0, 0, 1, 0, 0, 0, 0);
        due("ZERO", x.order(), ZERO);
        ringOfNine();
    }

    /** Looks for a map that has all 91 points in one ring. */
    private static void ringOfNine() {
        int most = 0;
        for (int a = 1; a < 9; a++) {
            FinitePlanes x = of(9);
            setMap(x, 0, 0, 1, 1, 0, 0, 0, 1, 0);
            for (int b = 0; b < 9; b++) {
                for (int c = 0; c < 9; c++) {
                    x.entry(2, a);
                    x.entry(5, b);
                    x.entry(8, c);
                    int order = x.order();
                    due("q 9: an order there can be", order >= 1 && order <= 91 ? 1 : 0, 1);
                    most = Math.max(most, order);
                }
            }
        }
        due("q 9: the highest order", most, 91);
    }

    private static void promise22Fixed() {
        FinitePlanes x = of(4);
        due("at first", x.fixed(), 21);
        setMap(x, 2, 0, 0, 0, 2, 0, 0, 0, 2);
        due("a multiple", x.fixed(), 21);
        setMap(x, 1, 0, 0, 0, 2, 0, 0, 0, 3);
        due("a triangle", x.fixed(), 3);
        setMap(x, 1, 0, 0, 0, 1, 0, 0, 0, 2);
        due("a line and a point", x.fixed(), 6);
        setMap(x, 1, 0, 0, 0, 1, 0, 0, 0, 0);
        due("a line; a point to 0, 0, 0", x.fixed(), 5);
        setMap(x, 0, 0, 0, 0, 0, 0, 0, 0, 0);
        due("all to 0, 0, 0", x.fixed(), 0);
    }

    private static void promise23Invert() {
        FinitePlanes x = of(5);
        due("at first", x.invert(), 1);
        mapIs("at first", x, 1, 0, 0, 0, 1, 0, 0, 0, 1);
        setMap(x, 2, 0, 0, 0, 1, 0, 0, 0, 1);
        due("2, 1, 1", x.invert(), 1);
        mapIs("1 / 2, 1, 1, as told", x, 1, 0, 0, 0, 2, 0, 0, 0, 2);
        setMap(x, 1, 2, 0, 0, 1, 3, 0, 0, 1);
        due("two shears", x.invert(), 1);
        mapIs("two shears back", x, 1, 3, 1, 0, 1, 2, 0, 0, 1);
        setMap(x, 0, 3, 0, 0, 0, 2, 1, 0, 0);
        due("a ring", x.invert(), 1);
        mapIs("a ring back", x, 0, 0, 1, 2, 0, 0, 0, 3, 0);
        setMap(x, 1, 2, 3, 2, 4, 1, 0, 0, 1);
        due("ZERO", x.invert(), ZERO);
        mapIs("ZERO changes nothing", x, 1, 2, 3, 2, 4, 1, 0, 0, 1);
        for (int q : QS) {
            x = of(q);
            setMap(x, 0, 1, q - 1, 1, q - 1, 0, 1, 1, 1);
            if (x.determinant() != 0) {
                int[] to = new int[q * q + q + 1];
                for (int p = 0; p < to.length; p++) {
                    to[p] = x.image(p);
                }
                due("q " + q + ": invert", x.invert(), 1);
                for (int p = 0; p < to.length; p++) {
                    due("q " + q + ": back again", x.image(to[p]), p);
                }
            }
        }
    }

    private static void promise24Move() {
        FinitePlanes x = of(3);
        due("none", x.move(), 0);
        putAll(x, 0, 1, 12);
        due("at first", x.move(), 3);
        setIs("at first", x, 0, 1, 12);
        setMap(x, 0, 1, 0, 0, 0, 1, 1, 0, 0);
        due("a ring", x.move(), 3);
        setIs("a ring", x, x.number(0, 1, 0), x.number(1, 0, 0), x.number(2, 2, 1));
        setMap(x, 1, 0, 0, 0, 0, 0, 0, 0, 0);
        due("one goes out, two become one", x.move(), 1);
        setIs("one goes out, two become one", x, x.number(1, 0, 0));
        setMap(x, 0, 0, 0, 0, 1, 0, 0, 0, 1);
        due("all go out", x.move(), 0);
        setIs("all go out", x);
        x.begin(9);
        for (int p = 0; p < 91; p++) {
            x.put(p, true);
        }
        setMap(x, 0, 0, 3, 1, 0, 5, 0, 1, 1);
        due("all stay all", x.determinant() != 0 ? x.move() : -9, 91);
    }

    private static void promise25Frame() {
        FinitePlanes x = of(5);
        int e1 = x.number(1, 0, 0);
        int e2 = x.number(0, 1, 0);
        int e3 = x.number(0, 0, 1);
        int e4 = x.number(1, 1, 1);
        setMap(x, 2, 1, 0, 0, 3, 0, 1, 0, 4);
        due("the first frame", x.frame(e1, e2, e3, e4), 1);
        mapIs("the first frame", x, 1, 0, 0, 0, 1, 0, 0, 0, 1);
        due("turned", x.frame(e2, e3, e1, e4), 1);
        mapIs("turned", x, 0, 0, 1, 1, 0, 0, 0, 1, 0);
        due("stretched", x.frame(e1, e2, e3, x.number(1, 2, 3)), 1);
        mapIs("stretched", x, 1, 0, 0, 0, 2, 0, 0, 0, 3);
        due("as told", x.frame(e1, e2, e3, x.number(3, 1, 4)), 1);
        mapIs("as told", x, 1, 0, 0, 0, 2, 0, 0, 0, 3);
        framesRefused(x, e1, e2, e3, e4);
        mapIs("what is refused changes nothing", x, 1, 0, 0, 0, 2, 0, 0, 0, 3);
        setMap(x, 0, 0, 0, 0, 0, 0, 0, 0, 0);
        due("a frame needs no determinant", x.frame(e1, e2, e3, e4), 1);
        for (int q : QS) {
            x.begin(q);
            int n = q * q + q + 1;
            due("q " + q + ": a frame", x.frame(n - 1, 0, 1, 1 + q), 1);
            due("q " + q + ": takes it there", goesToFrame(x, n - 1, 0, 1, 1 + q), 1);
            due("q " + q + ": another", x.frame(0, 1, 1 + q, n - 1), 1);
            due("q " + q + ": takes it there", goesToFrame(x, 0, 1, 1 + q, n - 1), 1);
        }
    }

    private static void framesRefused(FinitePlanes x, int e1, int e2, int e3, int e4) {
        due("a, b, c on a line", x.frame(e1, e2, x.number(1, 1, 0), e4), NONE);
        due("a, b, d on a line", x.frame(e1, e2, e3, x.number(1, 1, 0)), NONE);
        due("a, c, d on a line", x.frame(e1, e2, e3, x.number(1, 0, 1)), NONE);
        due("b, c, d on a line", x.frame(e1, e2, e3, x.number(0, 1, 1)), NONE);
        due("a, b the same", x.frame(e1, e1, e3, e4), NONE);
        due("c, d the same", x.frame(e1, e2, e3, e3), NONE);
        for (int out : new int[] {LEAST, -1, 31, MOST}) {
            due("BAD a", x.frame(out, e2, e3, e4), BAD);
            due("BAD b", x.frame(e1, out, e3, e4), BAD);
            due("BAD c", x.frame(e1, e2, out, e4), BAD);
            due("BAD d", x.frame(e1, e2, e3, out), BAD);
            due("BAD before NONE", x.frame(e1, e1, e1, out), BAD);
        }
    }

    private static int goesToFrame(FinitePlanes x, int a, int b, int c, int d) {
        return x.image(x.number(1, 0, 0)) == a && x.image(x.number(0, 1, 0)) == b
                && x.image(x.number(0, 0, 1)) == c && x.image(x.number(1, 1, 1)) == d ? 1 : 0;
    }

    private static void promise26Behind() {
        FinitePlanes x = of(5);
        int e1 = x.number(1, 0, 0);
        int e2 = x.number(0, 1, 0);
        int e3 = x.number(0, 0, 1);
        int e4 = x.number(1, 1, 1);
        setMap(x, 2, 0, 0, 0, 1, 0, 0, 0, 1);
        due("first the ring, then the stretch", x.behind(e2, e3, e1, e4), 1);
        mapIs("first the ring, then the stretch", x, 0, 0, 1, 3, 0, 0, 0, 3, 0);
        setMap(x, 2, 0, 0, 0, 2, 0, 0, 0, 2);
        due("as told", x.behind(e1, e2, e3, e4), 1);
        mapIs("as told", x, 1, 0, 0, 0, 1, 0, 0, 0, 1);
        setMap(x, 1, 2, 3, 0, 1, 4, 0, 0, 1);
        int to1 = x.image(12);
        int to2 = x.image(0);
        int to3 = x.image(1);
        int to4 = x.image(30);
        due("points that go on", x.behind(12, 0, 1, 30), 1);
        due("points that have gone on", goesToFrame(x, to1, to2, to3, to4), 1);
        setMap(x, 1, 2, 3, 0, 1, 4, 0, 0, 1);
        due("no frame", x.behind(e1, e2, x.number(1, 1, 0), e4), NONE);
        for (int out : new int[] {LEAST, -1, 31, MOST}) {
            due("BAD a", x.behind(out, e2, e3, e4), BAD);
            due("BAD b", x.behind(e1, out, e3, e4), BAD);
            due("BAD c", x.behind(e1, e2, out, e4), BAD);
            due("BAD d", x.behind(e1, e2, e3, out), BAD);
        }
        mapIs("what is refused changes nothing", x, 1, 2, 3, 0, 1, 4, 0, 0, 1);
        x.entry(8, 0);
        due("ZERO", x.behind(e1, e2, e3, e4), ZERO);
        due("NONE before ZERO", x.behind(e1, e2, e3, e3), NONE);
        due("BAD before NONE and ZERO", x.behind(e1, e1, e1, 31), BAD);
        mapIs("ZERO changes nothing", x, 1, 2, 3, 0, 1, 4, 0, 0, 0);
    }

    private static void promise27Ratio() {
        FinitePlanes x = of(5);
        int a = x.number(1, 0, 0);
        int b = x.number(0, 1, 0);
        int c = x.number(1, 1, 0);
        due("d = a", x.ratio(a, b, c, a), 5);
        due("d = b", x.ratio(a, b, c, b), 0);
        due("d = c", x.ratio(a, b, c, c), 1);
        for (int s = 1; s < 5; s++) {
            due("d = s a + b", x.ratio(a, b, c, x.number(s, 1, 0)), s);
        }
        due("c = 2 a + b, d = a + b", x.ratio(a, b, x.number(2, 1, 0), c), 3);
        due("c = 2 a + b, d = 4 a + b", x.ratio(a, b, x.number(2, 1, 0), x.number(4, 1, 0)), 2);
        due("a = b", x.ratio(a, a, c, b), NONE);
        due("a = c", x.ratio(a, b, a, c), NONE);
        due("b = c", x.ratio(a, b, b, c), NONE);
        due("c beside the line", x.ratio(a, b, 0, c), NONE);
        due("d beside the line", x.ratio(a, b, c, 0), NONE);
        for (int out : new int[] {LEAST, -1, 31, MOST}) {
            due("BAD a", x.ratio(out, b, c, c), BAD);
            due("BAD b", x.ratio(a, out, c, c), BAD);
            due("BAD c", x.ratio(a, b, out, c), BAD);
            due("BAD d", x.ratio(a, b, c, out), BAD);
            due("BAD before NONE", x.ratio(a, a, a, out), BAD);
        }
        for (int q : QS) {
            ratiosStay(q);
        }
    }

    /** Each line's points have all ratios, each once, and a map changes none. */
    private static void ratiosStay(int q) {
        for (int l = 0; l < q * q + q + 1; l++) {
            FinitePlanes x = of(q);
            setMap(x, 0, 0, 1, 1, 0, q - 1, 0, 1, 1);
            int a = x.row(l, q);
            int b = x.row(l, 0);
            int c = x.row(l, 1);
            int seen = 0;
            for (int k = 0; k <= q; k++) {
                int d = x.row(l, k);
                int ratio = x.ratio(a, b, c, d);
                seen |= 1 << ratio;
                due("q " + q + ": a map changes no ratio",
                        x.ratio(x.image(a), x.image(b), x.image(c), x.image(d)), ratio);
            }
            due("q " + q + ": all ratios", seen, (1 << q + 1) - 1);
        }
    }

    private static void promise28Table() {
        FinitePlanes x = new FinitePlanes();
        int before = 1;
        for (int w = 13; w >= 1; w--) {
            due("table(" + w + ")", x.table(w), before);
            due("table(" + w + "): w", x.count(6), w);
            due("table(" + w + "): nothing on anything", x.count(7), 0);
            due("table(" + w + "): last mark", x.mark(w - 1, w - 1, true), 0);
            due("table(" + w + "): no more lines", x.mark(w, 0, true), BAD);
            before = w;
        }
        x.table(13);
        due("an earlier mark is gone", x.mark(12, 12, true), 0);
        for (int out : new int[] {LEAST, -1, 0, 14, MOST}) {
            due("table(out)", x.table(out), BAD);
        }
        due("BAD changes no w", x.count(6), 13);
        due("BAD changes no mark", x.count(7), 1);
        x.begin(7);
        due("begin changes no table", x.count(7), 1);
    }

    private static void promise29Mark() {
        FinitePlanes x = new FinitePlanes();
        x.table(3);
        due("mark(2, 1) comes", x.mark(2, 1, true), 0);
        due("mark(2, 1) stays", x.mark(2, 1, true), 1);
        due("mark(1, 2) is another", x.mark(1, 2, false), 0);
        due("marks", x.count(7), 1);
        for (int out : new int[] {LEAST, -1, 3, 12, 32, MOST}) {
            due("mark(out, 0)", x.mark(out, 0, true), BAD);
            due("mark(0, out)", x.mark(0, out, true), BAD);
            due("mark(0, out, false)", x.mark(0, out, false), BAD);
        }
        due("marks after BAD", x.count(7), 1);
        due("mark(2, 1) goes", x.mark(2, 1, false), 1);
        due("mark(2, 1) is gone", x.mark(2, 1, false), 0);
        due("marks", x.count(7), 0);
    }

    private static void promise30Flaw() {
        FinitePlanes x = new FinitePlanes();
        due("one line, one point", x.flaw(), 3000);
        x.mark(0, 0, true);
        due("one point on one line", x.flaw(), 3000);
        setTable(x, 2, "00", "00");
        due("two lines without a point", x.flaw(), 1001);
        setTable(x, 2, "10", "10");
        due("two points without a line", x.flaw(), 2001);
        setTable(x, 2, "11", "11");
        due("two lines with two points", x.flaw(), 1001);
        setTable(x, 2, "11", "10");
        due("no frame of two", x.flaw(), 3000);
        setTable(x, 3, "110", "101", "011");
        due("a triangle", x.flaw(), 3000);
        setTable(x, 4, "0111", "1100", "1010", "1001");
        due("a line and a point beside it", x.flaw(), 3000);
        setTable(x, 4, "0111", "1100", "1010", "1000");
        due("lines 0, 3 without a point", x.flaw(), 1003);
        setTable(x, 4, "1111", "1000", "0100", "0010");
        due("lines 1, 2 without a point", x.flaw(), 1022);
        setTable(x, 4, "0111", "1100", "1010", "1010");
        due("lines 2, 3 with two points", x.flaw(), 1043);
        setTable(x, 3, "100", "100", "111");
        due("three lines, one point: points are right, no frame", x.flaw(), 3000);
        setTable(x, 5, "11111", "10000", "10000", "10000", "10000");
        due("all points on a line", x.flaw(), 3000);
        setTable(x, 4, "1000", "1000", "1110", "1001");
        due("points 1, 3 without a line", x.flaw(), 2023);
        for (int w = 3; w <= 13; w++) {
            for (int apex = 0; apex < w; apex++) {
                x = new FinitePlanes();
                lineAndPointBeside(x, w, apex);
                due("a line and point " + apex + " of " + w + " beside it", x.flaw(), 3000);
            }
        }
        planesAreNoFlaw();
    }

    /** All lines are right, but no four points are a frame. */
    private static void lineAndPointBeside(FinitePlanes x, int w, int apex) {
        x.table(w);
        for (int p = 0; p < w; p++) {
            x.mark(apex, p, p != apex);
            if (p != apex) {
                x.mark(p, p, true);
                x.mark(p, apex, true);
            }
        }
    }

    private static void planesAreNoFlaw() {
        FinitePlanes x = of(2);
        x.told();
        due("the plane of 2", x.flaw(), 0);
        x.mark(6, 6, x.on(6, 6) == 0);
        due("the plane of 2 but for one", x.flaw() / 1000, 1);
        x.begin(3);
        x.told();
        due("the plane of 3", x.flaw(), 0);
        int p = x.row(12, 3);
        x.mark(12, p, false);
        due("the plane of 3 but for one", x.flaw() / 1000, 1);
        x.mark(12, p, true);
        due("the plane of 3 again", x.flaw(), 0);
        planeByDifferences(x);
        due("the plane of 3 by other numbers", x.flaw(), 0);
    }

    /** The plane of 3 otherwise: line l has the points l, l + 1, l + 3, l + 9, round in a ring. */
    private static void planeByDifferences(FinitePlanes x) {
        x.table(13);
        for (int l = 0; l < 13; l++) {
            for (int d : new int[] {0, 1, 3, 9}) {
                x.mark(l, (l + d) % 13, true);
            }
        }
    }

    private static void promise31Told() {
        FinitePlanes x = new FinitePlanes();
        for (int q : new int[] {2, 3}) {
            x.begin(q);
            int n = q * q + q + 1;
            x.table(13);
            x.mark(0, 0, true);
            due("q " + q + ": told", x.told(), n);
            due("q " + q + ": w", x.count(6), n);
            due("q " + q + ": marks", x.count(7), n * (q + 1));
            for (int l = 0; l < n; l++) {
                for (int p = 0; p < n; p++) {
                    int on = x.on(p, l);
                    due("q " + q + ": mark", x.mark(l, p, on == 1), on);
                }
            }
            due("q " + q + ": flaw", x.flaw(), 0);
        }
        for (int q : new int[] {4, 5, 7, 8, 9}) {
            x.begin(q);
            due("q " + q + ": told", x.told(), BAD);
            due("q " + q + ": BAD changes nothing", x.count(7), 52);
        }
    }

    public static void main(String[] args) {
        constants();
        promise1NewObject();
        promise2Begin();
        promise3Reckon();
        promise4Triple();
        promise5Number();
        promise6On();
        promise7Join();
        promise8Row();
        promise9Put();
        promise10Member();
        promise11Count();
        promise12Meets();
        promise13Is();
        promise14Greatest();
        promise15Closure();
        promise16Curve();
        promise17Through();
        promise18Entry();
        promise19Determinant();
        promise20Image();
        promise21Order();
        promise22Fixed();
        promise23Invert();
        promise24Move();
        promise25Frame();
        promise26Behind();
        promise27Ratio();
        promise28Table();
        promise29Mark();
        promise30Flaw();
        promise31Told();
        System.out.println(checks + " checks, " + wrong + " answers are not as due");
        if (wrong != 0) {
            System.exit(1);
        }
    }
}
