/** Promises 21 to 25: heard, read, forget, unlike, asleep. */
public final class SleepersTest {
    public static void main(String[] args) {
        hearing();
        reading();
        readingUpToTheFirstRefused();
        forgetting();
        unlike();
        asleep();
        asleepOfEachKind();
        changesAreSeen();
        wrongNumbers();
        Check.end();
    }

    private static void hearing() {
        HandCensus x = new HandCensus();
        Check.due("heard(0, 0)", x.heard(0, 0), 1);
        Check.due("heard(19, 400)", x.heard(19, 400), 2);
        Check.due("heard(19, -1)", x.heard(19, -1), 3);
        int[][] wrong = {{-1, 0}, {20, 0}, {0, -2}, {0, 401}, {Integer.MIN_VALUE, 0}, {0, Integer.MAX_VALUE}};
        for (int[] w : wrong) {
            Check.due("heard(" + w[0] + ", " + w[1] + ")", x.heard(w[0], w[1]), -2);
        }
        Check.due("count(4)", x.count(4), 3);
        for (int n = 4; n <= 12; n++) {
            Check.due("heard, the " + n + ".", x.heard(0, 0), n);
        }
        Check.due("heard, the 13.", x.heard(0, 0), -4);
        Check.due("heard(20, 0), full", x.heard(20, 0), -2);
        Check.due("count(4), full", x.count(4), 12);
    }

    private static HandCensus withSheet(int form, int... items) {
        HandCensus x = new HandCensus();
        x.sheet(0, form, items.length);
        for (int i = 0; i < items.length; i++) {
            x.put(0, form, i, items[i]);
        }
        return x;
    }

    private static void reading() {
        HandCensus x = withSheet(1, 0, 0, 1, 400, 19, -1, 7);
        Check.due("read(0)", x.read(0), 3);
        Check.due("count(4)", x.count(4), 3);
        Check.due("read(0) again", x.read(0), 3);
        Check.due("count(4) again", x.count(4), 6);
        Check.due("read(1)", x.read(1), -11);
        Check.due("count(8)", x.count(8), 1);
        for (int s : new int[] {-1, 4, Integer.MIN_VALUE, Integer.MAX_VALUE}) {
            Check.due("read(" + s + ")", x.read(s), -2);
        }
        Check.due("count(4) behind refusals", x.count(4), 6);
        Check.due("read() of one item", withSheet(2, 5).read(0), 0);
        Check.due("read() of no item", withSheet(2).read(0), 0);
        // who and TIME are not turned round, and they are the items, not their places
        HandCensus y = withSheet(0, 1, 3, 0, 0);
        Check.type(y, "p3p1");
        Check.due("read(0) of bytes", y.read(0), 2);
        Check.due("unlike() of what was read", y.unlike(), 0);
        y.put(0, 0, 0, 0);
        Check.due("unlike() behind put()", y.unlike(), 0);
        y.read(0);
        Check.due("unlike() of what was read then", y.unlike(), 1);
    }

    private static void readingUpToTheFirstRefused() {
        HandCensus x = withSheet(2, 0, 0, 1, 401, 2, 2);
        Check.due("read() up to a wrong TIME", x.read(0), 1);
        Check.due("count(4)", x.count(4), 1);
        HandCensus y = withSheet(2, 20, 0, 1, 4);
        Check.due("read() of a wrong one", y.read(0), 0);
        HandCensus z = withSheet(2, 0, 0, 1, 1, 2, 2, 3, 3, 4, 4);
        Check.due("read() of five", z.read(0), 5);
        Check.due("read() of five again", z.read(0), 5);
        Check.due("read() till it is full", z.read(0), 2);
        Check.due("read() when it is full", z.read(0), 0);
        Check.due("count(4), full", z.count(4), 12);
    }

    private static void forgetting() {
        HandCensus x = Check.row("p1");
        Check.due("forget() of none", x.forget(), 0);
        x.heard(0, 5);
        x.heard(0, 6);
        Check.due("unlike() of two", x.unlike(), 2);
        Check.due("forget() of two", x.forget(), 2);
        Check.due("count(4)", x.count(4), 0);
        Check.due("unlike() of none", x.unlike(), 0);
        Check.due("forget() again", x.forget(), 0);
        Check.due("heard() again", x.heard(0, 0), 1);
    }

    private static void unlike() {
        // times 0, 3, never, never
        HandCensus x = Check.row("p3d1p1p1");
        x.heard(0, 0);
        x.heard(1, 3);
        x.heard(2, -1);
        x.heard(19, -1);
        Check.due("unlike(): all are so", x.unlike(), 0);
        x.heard(0, -1);
        Check.due("unlike(): felt, told as never", x.unlike(), 1);
        x.heard(3, 4);
        Check.due("unlike(): never, told as felt", x.unlike(), 2);
        x.heard(1, 2);
        Check.due("unlike(): another time", x.unlike(), 3);
        x.heard(1, 2);
        Check.due("unlike(): told again", x.unlike(), 4);
        x.heard(10, 0);
        Check.due("unlike(): one who is not there", x.unlike(), 5);
    }

    private static void asleep() {
        HandCensus x = Check.row("p2p2p2");
        Check.due("nothing heard: asleep(0)", x.asleep(0), 7);
        Check.due("nothing heard: asleep(1)", x.asleep(1), 1);
        x.heard(2, -1);
        Check.due("2 never: asleep(0)", x.asleep(0), 3);
        Check.due("2 never: asleep(1)", x.asleep(1), 0);
        x.heard(1, 2);
        Check.due("1 at 2: asleep(0)", x.asleep(0), 2);
        x.heard(0, 1);
        Check.due("0 at 1: asleep(0)", x.asleep(0), 0);
        Check.due("0 at 1: asleep(1)", x.asleep(1), 0);
        x.forget();
        x.heard(2, 4);
        Check.due("2 at 4: asleep(0)", x.asleep(0), 4);
        Check.due("2 at 4: asleep(1)", x.asleep(1), 1);
        HandCensus nobody = new HandCensus();
        Check.due("nobody there: asleep(0)", nobody.asleep(0), 0);
        Check.due("nobody there: asleep(1)", nobody.asleep(1), 1);
        nobody.heard(3, 0);
        Check.due("nobody there, 3 at 0: asleep(1)", nobody.asleep(1), 0);
    }

    private static void asleepOfEachKind() {
        // a twin, who counts, one who sleeps: 3 is never reached as it is, so nobody's sleep makes a change there
        HandCensus x = Check.row("t1c1d1p1");
        x.heard(1, 1);
        x.heard(2, 3);
        Check.due("kinds: asleep(0)", x.asleep(0), 12);
        x.forget();
        x.heard(2, -1);
        x.heard(0, 0);
        Check.due("kinds: asleep(0), 2 never", x.asleep(0), 3);
        Check.due("kinds: asleep(1), 2 never", x.asleep(1), 0);
        // one who sleeps takes the busy time away, too: in a ring it comes by the other way
        HandCensus ring = Check.row("p1(p1p1p1o");
        ring.heard(3, 1);
        ring.heard(2, 2);
        Check.due("ring: asleep(0)", ring.asleep(0), 14);
        ring.heard(1, 1);
        Check.due("ring: asleep(0), 1 at 1", ring.asleep(0), 14);
        // with a SECOND, as it is
        HandCensus two = Check.row("p1p1p1");
        two.set(1, 2);
        two.set(2, 9);
        two.heard(2, 9);
        Check.due("SECOND: asleep(0)", two.asleep(0), 3);
        two.heard(1, 10);
        Check.due("SECOND: asleep(0), 1 at 10", two.asleep(0), 1);
    }

    private static void changesAreSeen() {
        HandCensus x = Check.row("p2p2p2");
        x.heard(2, 4);
        Check.due("asleep(0) before", x.asleep(0), 4);
        x.set(0, 2);
        Check.due("asleep(0) from 2", x.asleep(0), 0);
        Check.due("asleep(1) from 2", x.asleep(1), 0);
        Check.due("unlike() from 2", x.unlike(), 1);
        x.set(0, 0);
        Check.type(x, "p1");
        Check.due("asleep(0) of four", x.asleep(0), 12);
        x.type('p');
        Check.due("asleep(0) with a fault", x.asleep(0), 0);
        x.wipe();
        Check.due("asleep(0) of nobody", x.asleep(0), 0);
        Check.due("unlike() of nobody", x.unlike(), 1);
        Check.due("count(4) of nobody", x.count(4), 1);
    }

    private static void wrongNumbers() {
        HandCensus x = Check.row("p1");
        for (int what : new int[] {-1, 2, Integer.MIN_VALUE, Integer.MAX_VALUE}) {
            Check.due("asleep(" + what + ")", x.asleep(what), -2);
        }
    }
}
