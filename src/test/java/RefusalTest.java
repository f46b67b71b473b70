import java.util.ArrayList;
import java.util.Arrays;
import java.util.List;
import java.util.function.Consumer;
import java.util.function.ToIntFunction;

/**
 * "REFUSALS are answers: BAD (a number is none, or out of its bounds) first; then what a call names,
 * in the order named. What is refused changes nothing."
 *
 * Each refusal of each promise is called on a new object in each of some states; then all that
 * can be seen of that object is compared with what is seen of one that was not called. No object
 * here is used for more than 512 calls.
 */
public final class RefusalTest {
    private static final int NONE = FinitePlanes.NONE, BAD = FinitePlanes.BAD, ZERO = FinitePlanes.ZERO;
    private static final int LEAST = Integer.MIN_VALUE, MOST = Integer.MAX_VALUE;
    private static final int[] QS = {2, 3, 4, 5, 7, 8, 9};
    private static final int Q = 0, SET = 1, MAP = 2, TABLE = 3;
    private static int checks = 0;
    private static int wrong = 0;

    /** A state that objects are brought into, and what is then seen of one. */
    private static final class State {
        private final String name;
        private final int q;
        private final Consumer<FinitePlanes> way;
        private final int[][] seen;

        State(String name, int q, Consumer<FinitePlanes> way) {
            this.name = name + ", q " + q;
            this.q = q;
            this.way = way;
            this.seen = see(make());
        }

        FinitePlanes make() {
            FinitePlanes x = new FinitePlanes();
            x.begin(q);
            way.accept(x);
            return x;
        }

        int n() {
            return q * q + q + 1;
        }

        /** What is no NUMBER. */
        int[] noNumbers() {
            return new int[] {LEAST, -1, q, q + 1, MOST};
        }

        /** What is no POINT and no LINE. */
        int[] noPoints() {
            return new int[] {LEAST, -1, n(), n() + 1, MOST};
        }

        void refused(String call, int due, ToIntFunction<FinitePlanes> calling) {
            FinitePlanes x = make();
            due(name + ": " + call, calling.applyAsInt(x), due);
            same(call, x, Q, SET, MAP, TABLE);
        }

        void changesNothing(String call, ToIntFunction<FinitePlanes> calling) {
            FinitePlanes x = make();
            int answer = calling.applyAsInt(x);
            due(name + ": " + call + " is answered alike", calling.applyAsInt(x), answer);
            same(call, x, Q, SET, MAP, TABLE);
        }

        void changesNot(String call, ToIntFunction<FinitePlanes> calling, int... parts) {
            FinitePlanes x = make();
            due(name + ": " + call + " is done", calling.applyAsInt(x) >= 0 ? 1 : 0, 1);
            same(call, x, parts);
        }

        private void same(String call, FinitePlanes x, int... parts) {
            int[][] now = see(x);
            for (int part : parts) {
                checks++;
                if (!Arrays.equals(now[part], seen[part])) {
                    wrong++;
                    System.out.println(name + ": " + call + " changed " + Arrays.toString(seen[part])
                            + " to " + Arrays.toString(now[part]));
                }
            }
        }
    }

    private static void due(String what, int got, int want) {
        checks++;
        if (got != want) {
            wrong++;
            System.out.println(what + " answered " + got + ", due is " + want);
        }
    }

    /** All that can be seen; the numbers of the MAP and the marks are wiped out by that. */
    private static int[][] see(FinitePlanes x) {
        List<Integer> members = new ArrayList<>();
        for (int k = 0; k == 0 || members.get(k - 1) != NONE; k++) {
            members.add(x.member(k));
        }
        members.add(x.count(2));
        int[] map = new int[11];
        map[9] = x.determinant();
        map[10] = x.order();
        for (int k = 0; k < 9; k++) {
            map[k] = x.entry(k, 0);
        }
        int w = x.count(6);
        int[] table = new int[w * w + 3];
        table[w * w] = w;
        table[w * w + 1] = x.count(7);
        table[w * w + 2] = x.flaw();
        for (int at = 0; at < w * w; at++) {
            table[at] = x.mark(at / w, at % w, false);
        }
        return new int[][] {{x.count(0), x.count(1)},
            members.stream().mapToInt(Integer::intValue).toArray(), map, table};
    }

    private static void points(FinitePlanes x, int... points) {
        for (int p : points) {
            x.put(p, true);
        }
    }

    private static void map(FinitePlanes x, int... numbers) {
        for (int k = 0; k < 9; k++) {
            x.entry(k, numbers[k]);
        }
    }

    private static void marks(FinitePlanes x, int w) {
        x.table(w);
        for (int l = 0; l < w; l++) {
            x.mark(l, l * 5 % w, true);
            x.mark(l, (l + 3) % w, true);
        }
    }

    /** Its DETERMINANT is q - 1; a multiple that is not TOLD, from q = 3 on. */
    private static void regular(FinitePlanes x, int q) {
        map(x, 0, q - 1, 0, 0, 0, 1, 1, 0, 1);
    }

    /** (0, 0, 1) goes to 0, 0, 0. */
    private static void singular(FinitePlanes x, int q) {
        map(x, q - 1, 1, 0, 0, 1, 0, 1, 0, 0);
    }

    private static void setAll(FinitePlanes x, int n) {
        for (int p = 0; p < n; p++) {
            x.put(p, true);
        }
    }

    /** THE SET is empty, an ARC, no ARC, or all; the MAP has a DETERMINANT of 0 or not. */
    private static List<State> states(int q) {
        List<State> all = new ArrayList<>();
        all.add(new State("as begun", q, x -> { }));
        all.add(new State("an arc, a regular map", q, x -> {
            points(x, 0, 1, q + 1);
            regular(x, q);
            marks(x, 5);
        }));
        all.add(new State("no arc, a singular map", q, x -> {
            points(x, 0, 1, 2, q + 1);
            singular(x, q);
            marks(x, 13);
        }));
        all.add(new State("all points, a map of zeros", q, x -> {
            setAll(x, q * q + q + 1);
            map(x, 0, 0, 0, 0, 0, 0, 0, 0, 0);
            x.mark(0, 0, true);
        }));
        return all;
    }

    /** The least POINT that is not ON a LINE. */
    private static int beside(FinitePlanes x, int l) {
        int p = 0;
        while (x.on(p, l) == 1) {
            p++;
        }
        return p;
    }

    private static boolean isArc(State s) {
        return s.make().is(0) == 1;
    }

    private static boolean isSingular(State s) {
        return s.make().determinant() == 0;
    }

    private static void promises2To5(State s) {
        for (int q : new int[] {LEAST, -2, -1, 0, 1, 6, 10, 11, 12, 13, 16, 32, 258, MOST}) {
            s.refused("begin(" + q + ")", BAD, x -> x.begin(q));
        }
        for (int how : new int[] {LEAST, -1, 4, MOST}) {
            s.refused("reckon(" + how + ", 1, 1)", BAD, x -> x.reckon(how, 1, 1));
            s.refused("reckon(" + how + ", 1, 0): BAD before ZERO", BAD, x -> x.reckon(how, 1, 0));
        }
        for (int out : s.noNumbers()) {
            for (int how = 0; how < 4; how++) {
                int way = how;
                s.refused("reckon(" + way + ", " + out + ", 1)", BAD, x -> x.reckon(way, out, 1));
                s.refused("reckon(" + way + ", 1, " + out + ")", BAD, x -> x.reckon(way, 1, out));
            }
            s.refused("reckon(3, " + out + ", 0): BAD before ZERO", BAD, x -> x.reckon(3, out, 0));
            s.refused("number(" + out + ", 0, 0)", BAD, x -> x.number(out, 0, 0));
            s.refused("number(0, " + out + ", 0)", BAD, x -> x.number(0, out, 0));
            s.refused("number(0, 0, " + out + ")", BAD, x -> x.number(0, 0, out));
            s.refused("number(1, 1, " + out + ")", BAD, x -> x.number(1, 1, out));
        }
        for (int a = 0; a < s.q; a++) {
            int by = a;
            s.refused("reckon(3, " + by + ", 0)", ZERO, x -> x.reckon(3, by, 0));
        }
        for (int out : s.noPoints()) {
            s.refused("triple(" + out + ", 0)", BAD, x -> x.triple(out, 0));
            s.refused("triple(" + out + ", 2)", BAD, x -> x.triple(out, 2));
        }
        for (int out : new int[] {LEAST, -1, 3, MOST}) {
            s.refused("triple(0, " + out + ")", BAD, x -> x.triple(0, out));
            s.refused("triple(n - 1, " + out + ")", BAD, x -> x.triple(s.n() - 1, out));
        }
        s.refused("number(0, 0, 0)", ZERO, x -> x.number(0, 0, 0));
    }

    private static void promises6To10(State s) {
        for (int out : s.noPoints()) {
            s.refused("on(" + out + ", 0)", BAD, x -> x.on(out, 0));
            s.refused("on(0, " + out + ")", BAD, x -> x.on(0, out));
            s.refused("join(" + out + ", 0)", BAD, x -> x.join(out, 0));
            s.refused("join(0, " + out + ")", BAD, x -> x.join(0, out));
            s.refused("row(" + out + ", 0)", BAD, x -> x.row(out, 0));
            s.refused("row(" + out + ", q + 1): BAD before NONE", BAD, x -> x.row(out, s.q + 1));
            s.refused("row(" + out + ", -1): BAD before NONE", BAD, x -> x.row(out, -1));
            s.refused("put(" + out + ", true)", BAD, x -> x.put(out, true));
            s.refused("put(" + out + ", false)", BAD, x -> x.put(out, false));
        }
        for (int p = 0; p < s.n(); p++) {
            int both = p;
            s.refused("join(" + p + ", " + p + ")", BAD, x -> x.join(both, both));
        }
        for (int k : new int[] {LEAST, -1, s.q + 1, s.q + 2, MOST}) {
            s.refused("row(0, " + k + ")", NONE, x -> x.row(0, k));
            s.refused("row(n - 1, " + k + ")", NONE, x -> x.row(s.n() - 1, k));
        }
        int size = s.make().count(2);
        for (int k : new int[] {LEAST, -1, size, size + 1, s.n(), MOST}) {
            s.refused("member(" + k + ")", NONE, x -> x.member(k));
        }
    }

    private static void promises11To15(State s) {
        for (int what : new int[] {LEAST, -1, 8, MOST}) {
            s.refused("count(" + what + ")", BAD, x -> x.count(what));
        }
        for (int what : new int[] {LEAST, -1, 4, MOST}) {
            s.refused("is(" + what + ")", BAD, x -> x.is(what));
        }
        int most = s.q % 2 == 0 ? s.q + 2 : s.q + 1;
        for (int k : new int[] {LEAST, -2, most, most + 1, MOST}) {
            s.refused("greatest(" + k + ")", s.q > 5 ? BAD : NONE, x -> x.greatest(k));
        }
        if (s.q > 5 || !isArc(s)) {
            for (int k = -1; k <= most; k++) {
                int at = k;
                s.refused("greatest(" + k + ")", s.q > 5 ? BAD : NONE, x -> x.greatest(at));
            }
        }
        int size = s.make().count(4);
        for (int k : new int[] {LEAST, -1, size, size + 1, s.n(), MOST}) {
            s.refused("closure(" + k + ")", NONE, x -> x.closure(k));
        }
    }

    private static int curveWith(FinitePlanes x, int at, int v, int others) {
        int[] c = {others, others, others, others, others, others};
        c[at] = v;
        return x.curve(c[0], c[1], c[2], c[3], c[4], c[5]);
    }

    private static void promises16To18(State s) {
        for (int out : s.noNumbers()) {
            for (int k = 0; k < 6; k++) {
                int at = k;
                s.refused("curve of " + out + " at " + k, BAD, x -> curveWith(x, at, out, 1));
                s.refused("curve of " + out + " at " + k + ", else 0", BAD, x -> curveWith(x, at, out, 0));
            }
            for (int k = 0; k < 9; k++) {
                int at = k;
                s.refused("entry(" + k + ", " + out + ")", BAD, x -> x.entry(at, out));
            }
        }
        s.refused("curve(0, 0, 0, 0, 0, 0)", ZERO, x -> x.curve(0, 0, 0, 0, 0, 0));
        for (int out : new int[] {LEAST, -1, 6, MOST}) {
            s.refused("through(" + out + "): BAD before NONE", BAD, x -> x.through(out));
        }
        for (int k = 0; k < 6; k++) {
            int at = k;
            s.refused("through(" + k + ")", NONE, x -> x.through(at));
        }
        for (int out : new int[] {LEAST, -1, 9, MOST}) {
            s.refused("entry(" + out + ", 0)", BAD, x -> x.entry(out, 0));
            s.refused("entry(" + out + ", 1)", BAD, x -> x.entry(out, 1));
            s.refused("entry(" + out + ", q)", BAD, x -> x.entry(out, s.q));
        }
    }

    private static void promises20To23(State s) {
        for (int out : s.noPoints()) {
            s.refused("image(" + out + "): BAD before ZERO", BAD, x -> x.image(out));
        }
        if (isSingular(s)) {
            s.refused("image(0)", ZERO, x -> x.image(0));
            s.refused("order()", ZERO, x -> x.order());
            s.refused("invert()", ZERO, x -> x.invert());
        }
    }

    private interface FourCall {
        int on(FinitePlanes x, int a, int b, int c, int d);
    }

    private static int fourWith(FinitePlanes x, FourCall call, int[] four, int at, int v) {
        int[] p = four.clone();
        p[at] = v;
        return call.on(x, p[0], p[1], p[2], p[3]);
    }

    /** Whatever the others are, and also if they would be refused with NONE. */
    private static void badFour(State s, String name, FourCall call) {
        int[] frame = {0, 1, s.q + 1, s.make().number(1, 1, 1)};
        int[] same = {0, 0, 0, 0};
        for (int out : s.noPoints()) {
            for (int k = 0; k < 4; k++) {
                int at = k;
                s.refused(name + " of " + out + " at " + k, BAD, x -> fourWith(x, call, frame, at, out));
                s.refused(name + " of " + out + " at " + k + ": BAD before NONE", BAD,
                        x -> fourWith(x, call, same, at, out));
            }
        }
    }

    /** Three of the four ON a LINE, each three in turn; two the same, each two in turn. */
    private static void noFrames(State s, String name, FourCall call) {
        FinitePlanes y = s.make();
        int[] frame = {s.q + 1, 1, 0, y.number(1, 1, 1)};
        int[] beside = {y.number(1, 1, 0), y.number(1, 0, 1), y.number(0, 1, 1)};
        s.refused(name + ": a, b, d on a line", NONE, x -> fourWith(x, call, frame, 3, beside[0]));
        s.refused(name + ": a, c, d on a line", NONE, x -> fourWith(x, call, frame, 3, beside[1]));
        s.refused(name + ": b, c, d on a line", NONE, x -> fourWith(x, call, frame, 3, beside[2]));
        s.refused(name + ": a, b, c on a line", NONE, x -> fourWith(x, call, frame, 2, beside[0]));
        for (int a = 0; a < 4; a++) {
            for (int b = 0; b < 4; b++) {
                if (a != b) {
                    int at = a;
                    int other = frame[b];
                    s.refused(name + ": " + a + " the same as " + b, NONE,
                            x -> fourWith(x, call, frame, at, other));
                }
            }
        }
        s.refused(name + ": all the same", NONE, x -> call.on(x, 3, 3, 3, 3));
    }

    private static void promises25To27(State s) {
        badFour(s, "frame", FinitePlanes::frame);
        noFrames(s, "frame", FinitePlanes::frame);
        badFour(s, "behind", FinitePlanes::behind);
        noFrames(s, "behind, NONE before ZERO", FinitePlanes::behind);
        if (isSingular(s)) {
            int last = s.make().number(1, 1, 1);
            s.refused("behind", ZERO, x -> x.behind(0, 1, s.q + 1, last));
        }
        badFour(s, "ratio", FinitePlanes::ratio);
        int[] row = {s.make().row(5, 0), s.make().row(5, 1), s.make().row(5, 2)};
        int beside = beside(s.make(), 5);
        s.refused("ratio: a = b", NONE, x -> x.ratio(row[0], row[0], row[1], row[2]));
        s.refused("ratio: a = c", NONE, x -> x.ratio(row[0], row[1], row[0], row[2]));
        s.refused("ratio: b = c", NONE, x -> x.ratio(row[0], row[1], row[1], row[2]));
        s.refused("ratio: a = b = c = d", NONE, x -> x.ratio(row[0], row[0], row[0], row[0]));
        s.refused("ratio: a beside", NONE, x -> x.ratio(beside, row[0], row[1], row[2]));
        s.refused("ratio: b beside", NONE, x -> x.ratio(row[0], beside, row[1], row[2]));
        s.refused("ratio: c beside", NONE, x -> x.ratio(row[0], row[1], beside, row[2]));
        s.refused("ratio: d beside", NONE, x -> x.ratio(row[0], row[1], row[2], beside));
        s.refused("ratio: c beside, d = a", NONE, x -> x.ratio(row[0], row[1], beside, row[0]));
    }

    private static void promises28To31(State s) {
        for (int out : new int[] {LEAST, -1, 0, 14, 15, MOST}) {
            s.refused("table(" + out + ")", BAD, x -> x.table(out));
        }
        int w = s.make().count(6);
        for (int out : new int[] {LEAST, -1, w, w + 1, 32, 64, MOST}) {
            for (boolean on : new boolean[] {true, false}) {
                s.refused("mark(" + out + ", 0, " + on + ")", BAD, x -> x.mark(out, 0, on));
                s.refused("mark(0, " + out + ", " + on + ")", BAD, x -> x.mark(0, out, on));
                s.refused("mark(" + out + ", " + out + ", " + on + ")", BAD, x -> x.mark(out, out, on));
            }
        }
        if (s.q > 3) {
            s.refused("told()", BAD, x -> x.told());
        }
    }

    /** through's NONE has states of its own: all but five POINTS, no four of them ON a LINE. */
    private static void throughRefused(int q) {
        for (int size = 0; size <= 7; size++) {
            int points = size;
            State s = new State(size + " points", q, x -> setAll(x, points));
            boolean fits = size == 5 && q == 2;
            for (int k = 0; k < 6; k++) {
                int at = k;
                if (!fits) {
                    s.refused("through(" + k + ")", NONE, x -> x.through(at));
                }
            }
            for (int out : new int[] {LEAST, -1, 6, MOST}) {
                s.refused("through(" + out + ")", BAD, x -> x.through(out));
            }
        }
        if (q > 2) {
            for (int l = 0; l < q * q + q + 1; l++) {
                fourOnALine(q, l);
            }
        }
        fiveThatFit(q);
    }

    /** Three ON each of two LINES that meet in one of them. */
    private static void fiveThatFit(int q) {
        State s = new State("five points that fit", q, x -> points(x, 0, 1, 2, q + 1, q + 2));
        for (int k = 0; k < 6; k++) {
            int at = k;
            s.changesNothing("through(" + k + ")", x -> x.through(at));
            due("five points that fit, through(" + k + ")", s.make().through(k), k == 5 ? 1 : 0);
        }
        for (int out : new int[] {LEAST, -1, 6, MOST}) {
            s.refused("through(" + out + ")", BAD, x -> x.through(out));
        }
    }

    private static void fourOnALine(int q, int l) {
        State s = new State("four on line " + l, q, x -> {
            for (int k = 0; k < 4; k++) {
                x.put(x.row(l, k), true);
            }
            x.put(beside(x, l), true);
        });
        for (int k = 0; k < 6; k++) {
            int at = k;
            s.refused("through(" + k + ")", NONE, x -> x.through(at));
        }
    }

    /** Calls that only tell something. */
    private static void tellingChangesNothing(State s) {
        for (int k = 0; k < 8; k++) {
            int at = k;
            s.changesNothing("count(" + k + ")", x -> x.count(at));
            s.changesNothing("is(" + k + ")", x -> x.is(at));
            s.changesNothing("meets(" + k + ")", x -> x.meets(at));
            s.changesNothing("member(" + k + ")", x -> x.member(at));
            s.changesNothing("closure(" + k + ")", x -> x.closure(at));
            s.changesNothing("greatest(" + k + " - 1)", x -> x.greatest(at - 1));
            s.changesNothing("through(" + k + ")", x -> x.through(at));
            s.changesNothing("image(" + k + " - 1)", x -> x.image(at - 1));
            s.changesNothing("reckon(" + k + ", 1, 1)", x -> x.reckon(at, 1, 1));
            s.changesNothing("triple(" + k + ", 1)", x -> x.triple(at, 1));
            s.changesNothing("number(1, 0, " + k + ")", x -> x.number(1, 0, at));
            s.changesNothing("on(" + k + ", 1)", x -> x.on(at, 1));
            s.changesNothing("join(" + k + ", 1)", x -> x.join(at, 1));
            s.changesNothing("row(" + k + ", 1)", x -> x.row(at, 1));
            s.changesNothing("ratio(1, 2, 3, " + k + ")", x -> x.ratio(1, 2, 3, at));
        }
        s.changesNothing("determinant()", x -> x.determinant());
        s.changesNothing("order()", x -> x.order());
        s.changesNothing("fixed()", x -> x.fixed());
        s.changesNothing("flaw()", x -> x.flaw());
    }

    /** Calls that change something leave all else as it was. */
    private static void changesLeaveTheRest(State s) {
        for (int q : QS) {
            s.changesNot("begin(" + q + ")", x -> x.begin(q), TABLE);
        }
        s.changesNot("put(0, false)", x -> x.put(0, false), Q, MAP, TABLE);
        s.changesNot("put(n - 1, true)", x -> x.put(s.n() - 1, true), Q, MAP, TABLE);
        s.changesNot("curve(1, 1, 0, 0, 0, 1)", x -> x.curve(1, 1, 0, 0, 0, 1), Q, MAP, TABLE);
        s.changesNot("entry(5, 1)", x -> x.entry(5, 1), Q, SET, TABLE);
        s.changesNot("move()", x -> x.move(), Q, MAP, TABLE);
        s.changesNot("frame", x -> x.frame(1, 0, s.q + 1, x.number(1, 1, 1)), Q, SET, TABLE);
        if (!isSingular(s)) {
            s.changesNot("invert()", x -> x.invert(), Q, SET, TABLE);
            s.changesNot("behind", x -> x.behind(1, 0, s.q + 1, x.number(1, 1, 1)), Q, SET, TABLE);
        }
        s.changesNot("table(13)", x -> x.table(13), Q, SET, MAP);
        s.changesNot("mark(0, 0, true)", x -> x.mark(0, 0, true), Q, SET, MAP);
        if (s.q <= 3) {
            s.changesNot("told()", x -> x.told(), Q, SET, MAP);
        }
    }

    public static void main(String[] args) {
        for (int q : QS) {
            for (State s : states(q)) {
                promises2To5(s);
                promises6To10(s);
                promises11To15(s);
                promises16To18(s);
                promises20To23(s);
                promises25To27(s);
                promises28To31(s);
                tellingChangesNothing(s);
                changesLeaveTheRest(s);
            }
            throughRefused(q);
        }
        System.out.println(checks + " checks, " + wrong + " are not as due");
        if (wrong != 0) {
            System.exit(1);
        }
    }
}
