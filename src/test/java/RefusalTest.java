import java.util.ArrayList;
import java.util.List;
import java.util.function.Consumer;
import java.util.function.ToLongFunction;

/**
 * "Refusals, the first that fits, in the order told at each act: BAD -2, NULL, NOT -3, FULL -4, other FINDINGS.
 * They change nothing (FINDINGS but count() 8)." Each refused call is made on one of two objects that are made alike;
 * behind it both tell the same of all that can be asked, but for the latest FINDING.
 */
public final class RefusalTest {
    private static final int LEAST = Integer.MIN_VALUE;
    private static final int GREATEST = Integer.MAX_VALUE;
    private static final int[] FAR = {LEAST, GREATEST};

    /** A way to make an object of which much can be told. */
    private record Kind(String name, Consumer<HandCensus> make) {
    }

    private static Kind kind;

    public static void main(String[] args) {
        for (Kind each : new Kind[] {new Kind("rich", RefusalTest::rich), new Kind("new", x -> { }),
            new Kind("full", RefusalTest::full), new Kind("faulty", RefusalTest::faulty)}) {
            kind = each;
            row();
            squeezes();
            counting();
            sleepers();
            censuses();
            sheets();
            copies();
        }
        Check.end();
    }

    private static void rich(HandCensus x) {
        Check.type(x, "t2sp1(c3p1op4(d1)p2");
        x.set(0, 1);
        x.set(1, 3);
        x.set(2, 7);
        x.limits(2, 5, 11);
        x.heard(0, 4);
        x.heard(3, 7);
        x.heard(19, -1);
        x.census(10, 40);
        x.census(20, 60);
        x.census(20, 61);
        x.births(10, 20);
        x.births(99, 3);
        someSheets(x);
    }

    private static void someSheets(HandCensus x) {
        x.sheet(0, 0, 3);
        x.put(0, 0, 0, -7);
        x.put(0, 0, 2, 100);
        x.sheet(1, 1, 2);
        x.put(1, 1, 1, 300);
        x.sheet(2, 2, 4);
        x.put(2, 2, 3, LEAST);
        x.get(0, 0, 3);
    }

    private static void full(HandCensus x) {
        Check.type(x, "sp1".repeat(20));
        for (int n = 0; n < 12; n++) {
            x.heard(n, 4 * n);
        }
        for (int n = 0; n < 8; n++) {
            x.census(n, n % 3);
        }
        someSheets(x);
    }

    private static void faulty(HandCensus x) {
        Check.type(x, "p1p2x");
        x.heard(0, -1);
        x.heard(0, 0);
        someSheets(x);
    }

    // All that can be told of an object; some questions are put by changing what is asked for, so it is used up.
    private static List<Long> all(HandCensus x) {
        List<Long> told = new ArrayList<>();
        told.add(x.digest());
        for (int n = 0; n <= 5; n++) {
            told.add((long) x.doubt(n, -1));
        }
        for (int s = 0; s <= 3; s++) {
            for (int form = 0; form <= 2; form++) {
                for (int i = 0; i <= 4; i++) {
                    told.add((long) x.get(s, form, i));
                }
            }
            told.add((long) x.lose(s));
        }
        for (int a = 0; a < 8; a++) {
            for (int b = 0; b < a; b++) {
                told.add((long) x.cannot(a, b));
            }
        }
        told.add((long) x.set(2, 1));
        told.add((long) x.set(1, -1));
        for (int first = 0; first < 20; first++) {
            told.add((long) x.set(0, first));
            told.add((long) x.unlike());
        }
        told.add((long) x.limits(1, 9, 0));
        for (int year = 0; year < 100; year++) {
            told.add((long) x.births(year, 0));
        }
        told.add((long) x.forget());
        told.add((long) x.wipe());
        return told;
    }

    private static void refused(String call, ToLongFunction<HandCensus> act, long want) {
        finding(call, act, want, 0);
    }

    private static void finding(String call, ToLongFunction<HandCensus> act, long want, int number) {
        HandCensus asked = new HandCensus();
        HandCensus alike = new HandCensus();
        kind.make().accept(asked);
        kind.make().accept(alike);
        int latest = alike.count(8);
        Check.due(kind.name() + ": " + call, act.applyAsLong(asked), want);
        Check.due(kind.name() + ": count(8) behind " + call, asked.count(8), number == 0 ? latest : number);
        Check.holds(kind.name() + ": " + call + " changes nothing", all(asked).equals(all(alike)));
    }

    private static int people() {
        HandCensus x = new HandCensus();
        kind.make().accept(x);
        return x.count(0);
    }

    private static boolean isFull() {
        return kind.name().equals("full");
    }

    private static int[] with(int... near) {
        int[] out = new int[near.length + FAR.length];
        System.arraycopy(near, 0, out, 0, near.length);
        System.arraycopy(FAR, 0, out, near.length, FAR.length);
        return out;
    }

    private static void row() {
        Check.of("Refusals of the row (" + kind.name() + ")");
        for (int b : with(-1, 256)) {
            refused("type(" + b + ")", x -> x.type(b), -2);
        }
        if (isFull()) {
            refused("type('p')", x -> x.type('p'), -4);
        }
        for (int p : with(-1, people(), 20)) {
            refused("person(" + p + ", 0)", x -> x.person(p, 0), -2);
        }
        for (int what : with(-1, 5)) {
            refused("person(0, " + what + ")", x -> x.person(0, what), -2);
        }
        for (int v : with(-1, 20)) {
            refused("set(0, " + v + ")", x -> x.set(0, v), -5);
        }
        for (int v : with(-2, 20)) {
            refused("set(1, " + v + ")", x -> x.set(1, v), -5);
        }
        for (int v : with(-1, 100)) {
            refused("set(2, " + v + ")", x -> x.set(2, v), -5);
        }
        for (int what : with(-1, 3)) {
            refused("set(" + what + ", 5)", x -> x.set(what, 5), -5);
        }
    }

    private static void squeezes() {
        Check.of("Refusals of squeezes (" + kind.name() + ")");
        for (int p : with(-1, people(), 20)) {
            refused("felt(" + p + ", 0)", x -> x.felt(p, 0), -2);
            refused("many(" + p + ", 0)", x -> x.many(p, 0), -2);
            refused("lost(" + p + ", 0)", x -> x.lost(p, 0), -2);
            refused("from(" + p + ", 0)", x -> x.from(p, 0), -2);
            refused("round(" + p + ")", x -> x.round(p), -2);
        }
        for (int k : new int[] {-1, LEAST}) {
            refused("felt(0, " + k + ")", x -> x.felt(0, k), -2);
            refused("from(0, " + k + ")", x -> x.from(0, k), -2);
        }
        for (int time : with(-1, 401)) {
            refused("many(0, " + time + ")", x -> x.many(0, time), -2);
            refused("lost(0, " + time + ")", x -> x.lost(0, time), -2);
            refused("passed(" + time + ")", x -> x.passed(time), -2);
        }
        for (int what : with(-1, 3)) {
            refused("begin(" + what + ")", x -> x.begin(what), -2);
        }
    }

    private static void counting() {
        Check.of("Refusals of counting (" + kind.name() + ")");
        int[][] wrong = {{0, 9, 0}, {1, 10, 0}, {4, 3, 0}, {10, 10, 0}, {1, 9, -1}, {1, 9, 21}, {LEAST, 9, 0}, {1, GREATEST, 0},
            {1, 9, LEAST}, {1, 9, GREATEST}};
        for (int[] w : wrong) {
            String told = w[0] + ", " + w[1] + ", " + w[2];
            refused("limits(" + told + ")", x -> x.limits(w[0], w[1], w[2]), -2);
            refused("spans(9, " + told + ", 0)", x -> x.spans(9, w[0], w[1], w[2], 0), -2);
        }
        for (int t : with(-1, 401)) {
            refused("spans(" + t + ", 1, 9, 0, 0)", x -> x.spans(t, 1, 9, 0, 0), -2);
        }
        for (int what : with(-1, 2)) {
            refused("spans(9, 1, 9, 0, " + what + ")", x -> x.spans(9, 1, 9, 0, what), -2);
        }
        for (int n : with(-1, 6)) {
            refused("doubt(" + n + ", NONE)", x -> x.doubt(n, -1), -2);
        }
        for (int i : with(-2, 2)) {
            refused("doubt(2, " + i + ")", x -> x.doubt(2, i), -2);
        }
        for (int doubt : with(-1, 10000)) {
            refused("posts(" + doubt + ")", x -> x.posts(doubt), -2);
        }
        if (people() == 0) {
            refused("doubt(0, NONE)", x -> x.doubt(0, -1), -3);
            refused("posts(5)", x -> x.posts(5), -3);
        }
        if (!isFull()) {
            refused("doubt(5, 4)", x -> x.doubt(5, 4), -3);
        }
    }

    private static void sleepers() {
        Check.of("Refusals of sleepers (" + kind.name() + ")");
        for (int p : with(-1, 20)) {
            refused("heard(" + p + ", 0)", x -> x.heard(p, 0), -2);
        }
        for (int time : with(-2, 401)) {
            refused("heard(0, " + time + ")", x -> x.heard(0, time), -2);
        }
        if (isFull()) {
            refused("heard(0, 0)", x -> x.heard(0, 0), -4);
            refused("read(2)", x -> x.read(2), 0);
        }
        for (int s : with(-1, 4)) {
            refused("read(" + s + ")", x -> x.read(s), -2);
        }
        finding("read(3)", x -> x.read(3), -11, 1);
        for (int what : with(-1, 2)) {
            refused("asleep(" + what + ")", x -> x.asleep(what), -2);
        }
    }

    private static void censuses() {
        Check.of("Refusals of censuses (" + kind.name() + ")");
        for (int year : with(-1, 100)) {
            refused("census(" + year + ", 0)", x -> x.census(year, 0), -2);
            refused("births(" + year + ", 0)", x -> x.births(year, 0), -2);
        }
        for (int many : with(-1, 10000)) {
            refused("census(10, " + many + ")", x -> x.census(10, many), -2);
        }
        for (int v : with(-1, 1000)) {
            refused("births(10, " + v + ")", x -> x.births(10, v), -2);
        }
        if (isFull()) {
            refused("census(10, 10)", x -> x.census(10, 10), -4);
        }
        for (int a : with(-1, 0, 8)) {
            refused("cannot(" + a + ", 0)", x -> x.cannot(a, 0), -2);
            refused("cannot(0, " + a + ")", x -> x.cannot(0, a), -2);
        }
        for (int what : with(-1, 3)) {
            refused("leave(" + what + ")", x -> x.leave(what), -2);
        }
    }

    private static void sheets() {
        Check.of("Refusals of sheets (" + kind.name() + ")");
        for (int s : with(-1, 4)) {
            refused("sheet(" + s + ", 0, 1)", x -> x.sheet(s, 0, 1), -2);
            refused("lose(" + s + ")", x -> x.lose(s), -2);
            refused("put(" + s + ", 0, 0, 9)", x -> x.put(s, 0, 0, 9), -2);
            refused("get(" + s + ", 0, 0)", x -> x.get(s, 0, 0), LEAST);
            refused("write(" + s + ")", x -> x.write(s), -2);
        }
        for (int form : with(-1, 3)) {
            refused("sheet(0, " + form + ", 1)", x -> x.sheet(0, form, 1), -2);
            refused("put(0, " + form + ", 0, 9)", x -> x.put(0, form, 0, 9), -2);
            refused("get(0, " + form + ", 0)", x -> x.get(0, form, 0), LEAST);
        }
        refused("sheet(0, 0, 61)", x -> x.sheet(0, 0, 61), -2);
        refused("sheet(0, 0, greatest)", x -> x.sheet(0, 0, GREATEST), -2);
        finding("sheet(0, 1, -1)", x -> x.sheet(0, 1, -1), -15, 5);
        finding("sheet(3, 1, least)", x -> x.sheet(3, 1, LEAST), -15, 5);
        finding("lose(3)", x -> x.lose(3), -11, 1);
        finding("put(3, 0, 0, 9)", x -> x.put(3, 0, 0, 9), -11, 1);
        finding("get(3, 0, 0)", x -> x.get(3, 0, 0), LEAST, 1);
        finding("write(3)", x -> x.write(3), -11, 1);
        for (int what : with(-1, 9)) {
            refused("count(" + what + ")", x -> x.count(what), -2);
        }
        if (kind.name().equals("new")) {
            return;
        }
        finding("put(0, 1, 0, 9)", x -> x.put(0, 1, 0, 9), -13, 3);
        finding("get(0, 1, 0)", x -> x.get(0, 1, 0), LEAST, 3);
        for (int i : with(-1, 3)) {
            finding("put(0, 0, " + i + ", 9)", x -> x.put(0, 0, i, 9), -12, 2);
            finding("get(0, 0, " + i + ")", x -> x.get(0, 0, i), LEAST, 2);
        }
    }

    private static void copies() {
        Check.of("Refusals of copy (" + kind.name() + ")");
        for (int s : with(-1, 4)) {
            refused("copy(" + s + ", 0, 0, 0, 1)", x -> x.copy(s, 0, 0, 0, 1), -2);
            refused("copy(0, 0, " + s + ", 0, 1)", x -> x.copy(0, 0, s, 0, 1), -2);
        }
        finding("copy(0, 0, 3, 0, 1)", x -> x.copy(0, 0, 3, 0, 1), -11, 1);
        finding("copy(3, 0, 0, 0, 1)", x -> x.copy(3, 0, 0, 0, 1), -11, 1);
        if (kind.name().equals("new")) {
            return;
        }
        finding("copy(0, 0, 1, 0, 1)", x -> x.copy(0, 0, 1, 0, 1), -14, 4);
        finding("copy(2, 0, 1, 0, 0)", x -> x.copy(2, 0, 1, 0, 0), -14, 4);
        int[][] wrong = {{-1, 0, 1}, {0, -1, 1}, {0, 0, -1}, {0, 0, 4}, {2, 0, 2}, {0, 2, 2}, {4, 0, 0}, {0, 4, 0},
            {GREATEST, 0, GREATEST}, {1, 1, GREATEST}, {LEAST, 0, 0}, {0, LEAST, 0}, {0, 0, LEAST}};
        for (int[] w : wrong) {
            String call = "copy(0, " + w[0] + ", 0, " + w[1] + ", " + w[2] + ")";
            finding(call, x -> x.copy(0, w[0], 0, w[1], w[2]), -12, 2);
        }
    }
}
