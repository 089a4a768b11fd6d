/** The boundary cases that the document names of HEARD (part 4, and promises 21 to 25), a sentence at a time. */
public final class SleepersEdgeTest {
    private static final int LEAST = Integer.MIN_VALUE;
    private static final int GREATEST = Integer.MAX_VALUE;

    public static void main(String[] args) {
        twelveAtMost();
        thereOrNot();
        timesOrNever();
        heardRefuses();
        unlikeOfNone();
        unlikeOfAll();
        whoever();
        whateverKind();
        allElseAsTold();
        nobodyToo();
        whatIsAsked();
        behindThoseThereAre();
        asManyAsAreWhole();
        upToTheFirstRefused();
        readTillFull();
        itemsOfEachForm();
        readRefuses();
        forgetting();
        Check.end();
    }

    private static HandCensus sheet(int form, int... items) {
        HandCensus x = new HandCensus();
        x.sheet(0, form, items.length);
        for (int i = 0; i < items.length; i++) {
            x.put(0, form, i, items[i]);
        }
        return x;
    }

    private static void heard(HandCensus x, int p, int time, int want) {
        Check.due("heard(" + p + ", " + time + ")", x.heard(p, time), want);
    }

    private static void twelveAtMost() {
        Check.of("HEARD, 12 at most");
        HandCensus x = new HandCensus();
        for (int n = 1; n <= 12; n++) {
            heard(x, 0, 0, n);
        }
        heard(x, 0, 0, -4);
        Check.due("count(4)", x.count(4), 12);
        Check.due("unlike()", x.unlike(), 12);
    }

    private static void thereOrNot() {
        Check.of("of one of the PEOPLE (0 to 19, there or not)");
        HandCensus x = Check.row("p1");
        heard(x, 0, 0, 1);
        heard(x, 1, -1, 2);
        heard(x, 19, -1, 3);
        Check.due("unlike(): who is not there never FELT it", x.unlike(), 0);
        heard(x, 19, 0, 4);
        Check.due("unlike()", x.unlike(), 1);
        heard(x, -1, 0, -2);
        heard(x, 20, 0, -2);
        heard(x, LEAST, 0, -2);
        heard(x, GREATEST, 0, -2);
        Check.due("asleep(0)", x.asleep(0), 0);
        Check.due("asleep(1)", x.asleep(1), 0);
    }

    private static void timesOrNever() {
        Check.of("the TIME at which one first FELT it (0 to 400; NONE: never)");
        HandCensus x = Check.row("p1d1p1");
        heard(x, 0, 0, 1);
        heard(x, 2, -1, 2);
        heard(x, 2, 400, 3);
        heard(x, 0, -2, -2);
        heard(x, 0, 401, -2);
        heard(x, 0, LEAST, -2);
        heard(x, 0, GREATEST, -2);
        Check.due("unlike()", x.unlike(), 1);
        // 0 is no NONE, and NONE no 0
        HandCensus y = Check.row("p1p1");
        y.heard(0, -1);
        Check.due("never, but at 0", y.unlike(), 1);
        y.heard(5, 0);
        Check.due("at 0, but never", y.unlike(), 2);
        HandCensus z = Check.row("p4(p3p3o");
        z.heard(0, 400);
        Check.due("the first alone counts, not one at 400", z.unlike(), 1);
    }

    private static void heardRefuses() {
        Check.of("21 heard: One more HEARD: how many. BAD; FULL");
        HandCensus x = new HandCensus();
        for (int n = 1; n <= 12; n++) {
            heard(x, 20, 0, -2);
            heard(x, n, n, n);
        }
        heard(x, 20, 0, -2);
        heard(x, 0, 401, -2);
        heard(x, 0, 0, -4);
        heard(x, 19, -1, -4);
        Check.due("count(4)", x.count(4), 12);
    }

    private static void unlikeOfNone() {
        Check.of("24 unlike: how many are not so: none HEARD");
        Check.due("of nobody", new HandCensus().unlike(), 0);
        Check.due("of two", Check.row("p1p1").unlike(), 0);
    }

    private static void unlikeOfAll() {
        Check.of("24 unlike: how many are not so: each of twelve");
        HandCensus x = Check.row("p1".repeat(20));
        for (int n = 0; n < 12; n++) {
            x.heard(n, n + 1);
            Check.due("unlike() of " + (n + 1), x.unlike(), n + 1);
        }
        x.set(0, 19);
        // 9 is felt at 10 now
        Check.due("from the other end", x.unlike(), 11);
        x.wipe();
        Check.due("of nobody", x.unlike(), 12);
    }

    private static void whoever() {
        Check.of("ASLEEP: who (alone, one of the PEOPLE) might have slept");
        Check.due("nobody there", new HandCensus().asleep(0), 0);
        Check.due("one", Check.row("p1").asleep(0), 1);
        Check.due("nothing HEARD: all twenty", Check.row("p1".repeat(20)).asleep(0), 0xfffff);
        HandCensus x = Check.row("p1".repeat(20));
        x.heard(19, -1);
        Check.due("19 never: any ahead", x.asleep(0), 0x7ffff);
        x.heard(18, 18);
        Check.due("18 at 18: 18 alone", x.asleep(0), 0x40000);
        x.heard(17, -1);
        Check.due("17 never: one alone cannot be it", x.asleep(0), 0);
        // FIRST itself
        HandCensus first = Check.row("p1p1");
        first.heard(1, -1);
        Check.due("FIRST slept", first.asleep(0), 1);
        first.heard(0, -1);
        Check.due("FIRST feels it all the same", first.asleep(0), 0);
    }

    private static void whateverKind() {
        Check.of("ASLEEP: whatever KIND one has");
        HandCensus x = Check.row("d1p1");
        x.heard(1, -1);
        Check.due("who sleeps anyway, and another", x.asleep(0), 3);
        Check.due("nobody, too", x.asleep(1), 1);
        HandCensus twin = Check.row("t1p1");
        twin.heard(1, -1);
        Check.due("a twin", twin.asleep(0), 1);
        HandCensus counts = Check.row("t1c1p1");
        counts.heard(2, 3);
        Check.due("who counts did not", counts.asleep(0), 4);
        counts.forget();
        counts.heard(2, -1);
        Check.due("who counts did", counts.asleep(0), 3);
    }

    private static void allElseAsTold() {
        Check.of("ASLEEP: all else as told");
        HandCensus x = Check.row("p1p1p1");
        x.set(1, 2);
        x.set(2, 99);
        x.heard(2, 99);
        Check.due("SECOND at 99", x.asleep(0), 3);
        x.heard(1, 100);
        Check.due("1 by SECOND", x.asleep(0), 1);
        Check.due("nothing is changed by asking", x.felt(2, 0), 2);
        Check.due("KIND is as it was", x.person(0, 0), 0);
        x.set(0, 3);
        Check.due("without FIRST", x.asleep(0), 3);
        Check.due("without FIRST, nobody, too", x.asleep(1), 1);
    }

    private static void nobodyToo() {
        Check.of("ASLEEP: such that all HEARD are so; whether nobody might have, too");
        HandCensus x = Check.row("p1p1p1");
        Check.due("nothing HEARD", x.asleep(1), 1);
        x.heard(2, 2);
        Check.due("all are so", x.asleep(1), 1);
        Check.due("all are so: 2 might have", x.asleep(0), 4);
        x.heard(2, -1);
        Check.due("both cannot be: nobody", x.asleep(1), 0);
        Check.due("both cannot be: asleep(0)", x.asleep(0), 0);
        Check.due("of nobody, nothing HEARD", new HandCensus().asleep(1), 1);
    }

    private static void whatIsAsked() {
        Check.of("25 asleep: as bits (what = 0), whether nobody might have (1). BAD");
        for (int what : new int[] {-1, 2, LEAST, GREATEST}) {
            Check.due("asleep(" + what + ")", Check.row("p1").asleep(what), -2);
            Check.due("asleep(" + what + ") of nobody", new HandCensus().asleep(what), -2);
        }
    }

    private static void behindThoseThereAre() {
        Check.of("22 read: HEARD more, behind those that there are");
        HandCensus x = sheet(2, 0, 0, 1, 1);
        Check.type(x, "p1p1");
        x.heard(0, 7);
        Check.due("read(0)", x.read(0), 2);
        Check.due("count(4)", x.count(4), 3);
        Check.due("unlike()", x.unlike(), 1);
        Check.due("heard() behind it", x.heard(0, 0), 4);
        Check.due("the SHEET is as it was", x.get(0, 2, 3), 1);
    }

    private static void asManyAsAreWhole() {
        Check.of("22 read: its items, two for each (who, TIME), as many as are whole");
        for (int items = 0; items <= 24; items++) {
            HandCensus x = new HandCensus();
            x.sheet(0, 0, items);
            Check.due("read() of " + items, x.read(0), items / 2);
            Check.due("count(4) of " + items, x.count(4), items / 2);
        }
        HandCensus order = sheet(0, 3, 9);
        Check.type(order, "p9d1");
        order.read(0);
        Check.due("who is the first item", order.unlike(), 1);
        HandCensus right = sheet(0, 1, 9);
        Check.type(right, "p9d1");
        right.read(0);
        Check.due("TIME is the second item", right.unlike(), 0);
    }

    private static void upToTheFirstRefused() {
        Check.of("22 read: one by one as heard() takes them, up to the first that it refuses: how many it took");
        int[][] refused = {{20, 0}, {-1, 0}, {0, 401}, {0, -2}, {LEAST, 0}, {0, GREATEST}};
        for (int[] r : refused) {
            String told = " at (" + r[0] + ", " + r[1] + ")";
            Check.due("the first" + told, sheet(2, r[0], r[1], 0, 0).read(0), 0);
            HandCensus x = sheet(2, 0, 0, 19, 400, 19, -1, r[0], r[1], 0, 0, 1, 1);
            Check.due("the fourth" + told, x.read(0), 3);
            Check.due("count(4)" + told, x.count(4), 3);
            Check.due("count(8)" + told, x.count(8), 0);
        }
    }

    private static void readTillFull() {
        Check.of("22 read: up to the first that it refuses: FULL");
        HandCensus x = new HandCensus();
        x.sheet(3, 1, 60);
        Check.due("read() of thirty", x.read(3), 12);
        Check.due("count(4)", x.count(4), 12);
        Check.due("read() when it is full", x.read(3), 0);
        HandCensus y = new HandCensus();
        y.sheet(3, 1, 60);
        for (int n = 0; n < 11; n++) {
            y.heard(0, 0);
        }
        Check.due("read() with room for one", y.read(3), 1);
    }

    private static void itemsOfEachForm() {
        Check.of("22 read: from a SHEET, whatever FORM it has");
        // as a byte 255 is NONE, as a short 65535
        Check.due("bytes", sheet(0, 19, 255).read(0), 1);
        Check.due("bytes, 128 is below 0", sheet(0, 128, 0).read(0), 0);
        Check.due("shorts", sheet(1, 19, 65535).read(0), 1);
        Check.due("shorts, 400", sheet(1, 19, 400).read(0), 1);
        Check.due("shorts, 401", sheet(1, 19, 401).read(0), 0);
        Check.due("ints, 65535", sheet(2, 19, 65535).read(0), 0);
        Check.due("ints, -1", sheet(2, 19, -1).read(0), 1);
    }

    private static void readRefuses() {
        Check.of("22 read: BAD; NULL");
        HandCensus x = new HandCensus();
        for (int s : new int[] {-1, 4, LEAST, GREATEST}) {
            Check.due("read(" + s + ")", x.read(s), -2);
        }
        Check.due("count(8) behind BAD", x.count(8), 0);
        for (int s = 0; s <= 3; s++) {
            Check.due("read(" + s + ")", x.read(s), -11);
        }
        Check.due("count(8) behind NULL", x.count(8), 1);
        x.sheet(0, 0, 0);
        Check.due("no items are not LOST", x.read(0), 0);
        Check.due("count(8) stays", x.count(8), 1);
        x.lose(0);
        for (int n = 0; n < 12; n++) {
            x.heard(0, 0);
        }
        Check.due("NULL when all is full", x.read(0), -11);
        Check.due("count(4)", x.count(4), 12);
    }

    private static void forgetting() {
        Check.of("23 forget: All HEARD are forgotten: how many");
        HandCensus x = Check.row("p1");
        Check.due("of none", x.forget(), 0);
        for (int n = 0; n < 12; n++) {
            x.heard(0, 5);
        }
        Check.due("of twelve", x.forget(), 12);
        Check.due("again", x.forget(), 0);
        Check.due("unlike()", x.unlike(), 0);
        Check.due("asleep(1)", x.asleep(1), 1);
        for (int n = 1; n <= 12; n++) {
            heard(x, 0, 0, n);
        }
        Check.due("none of the old ones is there", x.unlike(), 0);
    }
}
