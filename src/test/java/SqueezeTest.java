/** Promises 7 to 16: felt, many, lost, from, reached, last, twice, round, begin, passed. */
public final class SqueezeTest {
    public static void main(String[] args) {
        plainRow();
        backAndForth();
        twins();
        counters();
        sleepers();
        scarves();
        ringWithoutEnd();
        timesEndAt400();
        whoComesFirst();
        firstWhoIsNotThere();
        beginning();
        beginningAgainstAllElse();
        changesAreSeen();
        wrongNumbers();
        Check.end();
    }

    private static void feels(HandCensus x, int p, int... times) {
        for (int k = 0; k < times.length; k++) {
            Check.due("felt(" + p + ", " + k + ")", x.felt(p, k), times[k]);
        }
        Check.due("felt(" + p + ", " + times.length + ")", x.felt(p, times.length), -1);
        Check.due("from(" + p + ", " + times.length + ")", x.from(p, times.length), -1);
        Check.due("many(" + p + ", 400)", x.many(p, 400), times.length);
    }

    private static void comesFrom(HandCensus x, int p, int... whom) {
        for (int k = 0; k < whom.length; k++) {
            Check.due("from(" + p + ", " + k + ")", x.from(p, k), whom[k]);
        }
    }

    private static HandCensus withSecond(String text, int first, int second, int when) {
        HandCensus x = Check.row(text);
        x.set(0, first);
        x.set(1, second);
        x.set(2, when);
        return x;
    }

    private static void plainRow() {
        HandCensus x = Check.row("p3p2p4p1");
        feels(x, 0, 0);
        feels(x, 1, 3);
        feels(x, 2, 5);
        feels(x, 3, 9);
        comesFrom(x, 0, -1);
        comesFrom(x, 1, 0);
        comesFrom(x, 3, 2);
        Check.due("many(2, 4)", x.many(2, 4), 0);
        Check.due("many(2, 5)", x.many(2, 5), 1);
        Check.due("reached()", x.reached(), 15);
        Check.due("last()", x.last(), 9);
        Check.due("twice()", x.twice(), 0);
        Check.due("round(0)", x.round(0), -1);
        Check.due("passed(0)", x.passed(0), 1);
        Check.due("passed(4)", x.passed(4), 2);
        Check.due("passed(5)", x.passed(5), 3);
        Check.due("passed(400)", x.passed(400), 4);
        x.set(0, 2);
        feels(x, 0, 6);
        feels(x, 1, 4);
        feels(x, 2, 0);
        feels(x, 3, 4);
        Check.due("last() from the middle", x.last(), 6);
    }

    private static void backAndForth() {
        // from both ends at once: 0's comes to 1 first, by numbers; then 1 passes it to 2 alone
        HandCensus x = withSecond("p1p1p1", 0, 2, 0);
        feels(x, 0, 0);
        feels(x, 1, 1);
        feels(x, 2, 0, 2);
        comesFrom(x, 1, 0);
        comesFrom(x, 2, -1, 1);
        Check.due("lost(1, 0)", x.lost(1, 0), 0);
        Check.due("lost(1, 1)", x.lost(1, 1), 1);
        Check.due("lost(1, 400)", x.lost(1, 400), 1);
        Check.due("lost(2, 400)", x.lost(2, 400), 0);
        Check.due("twice()", x.twice(), 4);
        Check.due("round(2)", x.round(2), 2);
        Check.due("round(1)", x.round(1), -1);
        Check.due("count(7)", x.count(7), 1);
        Check.due("passed(1)", x.passed(1), 3);
        Check.due("passed(2)", x.passed(2), 4);
        // busy up to the time at which it is passed, that one left out
        HandCensus busy = withSecond("p2p1", 0, 0, 1);
        feels(busy, 0, 0);
        feels(busy, 1, 2);
        Check.due("lost(0, 0)", busy.lost(0, 0), 0);
        Check.due("lost(0, 1)", busy.lost(0, 1), 1);
        busy.set(2, 2);
        feels(busy, 0, 0, 2);
        feels(busy, 1, 2, 4);
        Check.due("lost(0, 400) when not busy", busy.lost(0, 400), 0);
        comesFrom(busy, 0, -1, -1);
        busy.set(2, 99);
        feels(busy, 0, 0, 99);
        feels(busy, 1, 2, 101);
    }

    private static void twins() {
        HandCensus x = withSecond("t2p1", 0, 0, 3);
        feels(x, 0, 0);
        feels(x, 1, 2, 4);
        Check.due("twin: lost(0, 400)", x.lost(0, 400), 1);
        x.set(2, 4);
        feels(x, 0, 0, 4);
        feels(x, 1, 2, 4, 6, 8);
        // what a twin passes late may find one busy
        HandCensus late = Check.row("t1p4p1");
        feels(late, 1, 1);
        feels(late, 2, 5);
        Check.due("twin: lost(1, 2)", late.lost(1, 2), 1);
        Check.due("twin: lost(1, 1)", late.lost(1, 1), 0);
        // not back to whom it came from, by either pass
        HandCensus back = Check.row("p1t1");
        feels(back, 0, 0);
        feels(back, 1, 1);
        HandCensus two = Check.row("t1t1p1");
        feels(two, 0, 0);
        feels(two, 1, 1);
        feels(two, 2, 2, 3);
        Check.due("twins: lost(1, 400)", two.lost(1, 400), 1);
    }

    private static void counters() {
        HandCensus x = Check.row("c2p1");
        feels(x, 0, 0);
        feels(x, 1);
        Check.due("counter: reached()", x.reached(), 1);
        Check.due("counter: last()", x.last(), 0);
        // at one time the first is felt and not passed, so that the second is felt, too
        x = withSecond("c2p1", 0, 0, 0);
        feels(x, 0, 0, 0);
        feels(x, 1, 2);
        Check.due("counter: round(0)", x.round(0), 0);
        Check.due("counter: lost(0, 400)", x.lost(0, 400), 0);
        x.set(2, 5);
        feels(x, 0, 0, 5);
        feels(x, 1, 7);
        // by a twin: the second is passed, and busy
        HandCensus twin = Check.row("t1c3p1");
        feels(twin, 1, 1, 2);
        feels(twin, 2, 5);
        // two twins: 0 brings 1 and 2, 2 (from the other side) the third while busy
        HandCensus three = withSecond("t1c3t1", 0, 2, 0);
        feels(three, 0, 0, 4);
        Check.due("counter of two twins: lost(1, 1)", three.lost(1, 1), 0);
        Check.due("counter of two twins: lost(1, 2)", three.lost(1, 2), 2);
        Check.due("counter of two twins: felt(1, 0)", three.felt(1, 0), 1);
        Check.due("counter of two twins: felt(1, 1)", three.felt(1, 1), 1);
        Check.due("counter of two twins: from(1, 0)", three.from(1, 0), 0);
        Check.due("counter of two twins: from(1, 1)", three.from(1, 1), 2);
    }

    private static void sleepers() {
        HandCensus x = withSecond("d9p1", 0, 0, 0);
        feels(x, 0, 0, 0);
        feels(x, 1);
        Check.due("sleeper: lost(0, 400)", x.lost(0, 400), 0);
        Check.due("sleeper: many(0, 0)", x.many(0, 0), 2);
        Check.due("sleeper: twice()", x.twice(), 1);
        HandCensus between = Check.row("p1d1p1");
        Check.due("sleeper between: reached()", between.reached(), 3);
        Check.due("sleeper between: last()", between.last(), 1);
        HandCensus twin = Check.row("t3d9");
        feels(twin, 1, 3, 6);
    }

    private static void scarves() {
        // by the later one's scarf, either way; the earlier one's own is for the one ahead
        HandCensus x = Check.row("sp1p1sp1p1");
        feels(x, 1, 1);
        feels(x, 2, 5);
        feels(x, 3, 6);
        x.set(0, 3);
        feels(x, 2, 1);
        feels(x, 1, 5);
        feels(x, 0, 6);
        // the hand by which a ring is closed takes no longer
        HandCensus ring = Check.row("p1(p1sp1o");
        Check.due("ring: felt(2, 0)", ring.felt(2, 0), 1);
        Check.due("ring: from(2, 0)", ring.from(2, 0), 0);
        Check.due("ring: felt(2, 1)", ring.felt(2, 1), 5);
        Check.due("ring: from(2, 1)", ring.from(2, 1), 1);
        Check.due("ring: felt(1, 1)", ring.felt(1, 1), 5);
        Check.due("ring: from(1, 1)", ring.from(1, 1), 2);
        Check.due("ring: felt(0, 1)", ring.felt(0, 1), 6);
        Check.due("ring: from(0, 1)", ring.from(0, 1), 1);
        Check.due("ring: lost(0, 5)", ring.lost(0, 5), 0);
        Check.due("ring: lost(0, 6)", ring.lost(0, 6), 1);
        // the first of a fork, and who comes behind it, by their own scarves
        HandCensus fork = Check.row("p2(sp1p1)p1");
        feels(fork, 1, 5);
        feels(fork, 2, 6);
        feels(fork, 3, 2);
    }

    private static void ringWithoutEnd() {
        // both ways at first; what meets at 0 is lost, and one goes on: 0, 2, 1 each third time
        HandCensus x = Check.row("p1(p1p1o");
        for (int k = 0; k <= 133; k++) {
            Check.due("ring: felt(0, " + k + ")", x.felt(0, k), 3 * k);
        }
        Check.due("ring: felt(0, 134)", x.felt(0, 134), -1);
        Check.due("ring: many(0, 400)", x.many(0, 400), 134);
        Check.due("ring: many(1, 400)", x.many(1, 400), 134);
        Check.due("ring: many(2, 399)", x.many(2, 399), 134);
        Check.due("ring: many(2, 400)", x.many(2, 400), 135);
        Check.due("ring: felt(2, 134)", x.felt(2, 134), 400);
        Check.due("ring: passed(400)", x.passed(400), 403);
        Check.due("ring: count(7)", x.count(7), 1);
        Check.due("ring: round(0)", x.round(0), 3);
        Check.due("ring: round(1)", x.round(1), 1);
        Check.due("ring: twice()", x.twice(), 7);
        Check.due("ring: last()", x.last(), 1);
    }

    private static void timesEndAt400() {
        // a ring of four, nine each: the two ways meet at 2, where 3's is lost; 1's goes on, each 36
        HandCensus four = Check.row("p9(p9p9p9o");
        feels(four, 0, 0, 36, 72, 108, 144, 180, 216, 252, 288, 324, 360, 396);
        feels(four, 1, 9, 45, 81, 117, 153, 189, 225, 261, 297, 333, 369);
        feels(four, 2, 18, 54, 90, 126, 162, 198, 234, 270, 306, 342, 378);
        Check.due("four: lost(2, 17)", four.lost(2, 17), 0);
        Check.due("four: lost(2, 18)", four.lost(2, 18), 1);
        Check.due("four: count(7)", four.count(7), 1);
        // who counts is passed by, so that a ring of three stops
        HandCensus stops = Check.row("p9(c9p9o");
        Check.due("stops: felt(1, 0)", stops.felt(1, 0), 9);
        Check.due("stops: felt(2, 0)", stops.felt(2, 0), 9);
        Check.due("stops: felt(1, 1)", stops.felt(1, 1), 18);
        Check.due("stops: felt(0, 1)", stops.felt(0, 1), 27);
    }

    private static void whoComesFirst() {
        // from nobody ahead of all others: 1 passes to 0 as well, then
        HandCensus x = withSecond("p1p1p1", 0, 1, 1);
        feels(x, 1, 1);
        comesFrom(x, 1, -1);
        Check.due("nobody first: lost(1, 1)", x.lost(1, 1), 1);
        feels(x, 0, 0, 2);
        comesFrom(x, 0, -1, 1);
        feels(x, 2, 2);
        // of those from others the least number: 3 holds hands with 0 alone, 1 and 2 come to 0 at one time
        HandCensus y = withSecond("p1(p1)(p1)p1", 2, 1, 0);
        comesFrom(y, 0, 1);
        feels(y, 1, 0);
        feels(y, 2, 0, 2);
        feels(y, 3, 2);
        Check.due("least number first: lost(0, 400)", y.lost(0, 400), 1);
    }

    private static void firstWhoIsNotThere() {
        HandCensus x = Check.row("p1p1");
        x.set(0, 2);
        Check.due("nobody begins: reached()", x.reached(), 0);
        Check.due("nobody begins: last()", x.last(), -1);
        Check.due("nobody begins: passed(400)", x.passed(400), 0);
        Check.due("nobody begins: felt(0, 0)", x.felt(0, 0), -1);
        x.set(1, 1);
        x.set(2, 4);
        Check.due("SECOND alone: felt(1, 0)", x.felt(1, 0), 4);
        Check.due("SECOND alone: felt(0, 0)", x.felt(0, 0), 5);
        x.set(0, 0);
        x.set(1, 2);
        feels(x, 0, 0);
        feels(x, 1, 1);
    }

    private static void begins(String text, int who, int many, int latest) {
        HandCensus x = Check.row(text);
        Check.due("begin(0) of " + text, x.begin(0), who);
        Check.due("begin(1) of " + text, x.begin(1), many);
        Check.due("begin(2) of " + text, x.begin(2), latest);
    }

    private static void beginning() {
        begins("", -1, 0, -1);
        begins("p1p", -1, 0, -1);
        begins("d1", 0, 1, 0);
        begins("p1p1", 0, 2, 1);
        begins("p1p1p1", 1, 3, 1);
        begins("p2p1", 1, 2, 1);
        begins("d1p1p1", 1, 3, 1);
        begins("p1p1p1d1p1", 1, 4, 2);
        begins("p1(p9p1)(p1p1)", 0, 5, 10);
    }

    private static void beginningAgainstAllElse() {
        HandCensus x = withSecond("p1p1p1", 0, 2, 0);
        Check.due("begin(0) without a SECOND", x.begin(0), 1);
        Check.due("begin(2) without a SECOND", x.begin(2), 1);
        Check.due("felt(2, 0) behind begin()", x.felt(2, 0), 0);
        x.type('p');
        Check.due("begin(0) with a fault", x.begin(0), -1);
        x.type('1');
        Check.due("begin(0) of four", x.begin(0), 1);
        Check.due("begin(2) of four", x.begin(2), 2);
        x.wipe();
        Check.due("begin(0) of nobody", x.begin(0), -1);
    }

    private static void changesAreSeen() {
        HandCensus x = Check.row("p1p1");
        Check.due("last() of two", x.last(), 1);
        Check.type(x, "p1");
        Check.due("last() of three", x.last(), 2);
        x.set(0, 1);
        Check.due("last() from 1", x.last(), 1);
        x.set(1, 0);
        Check.due("felt(0, 0) with SECOND", x.felt(0, 0), 0);
        x.set(2, 1);
        Check.due("from(0, 0) with SECOND and WHEN", x.from(0, 0), -1);
        x.wipe();
        Check.due("reached() of nobody", x.reached(), 0);
        Check.due("last() of nobody", x.last(), -1);
        Check.due("passed(400) of nobody", x.passed(400), 0);
    }

    private static void wrongNumbers() {
        HandCensus x = Check.row("p1p1");
        for (int p : new int[] {-1, 2, 19, 20, Integer.MIN_VALUE, Integer.MAX_VALUE}) {
            Check.due("felt(" + p + ", 0)", x.felt(p, 0), -2);
            Check.due("from(" + p + ", 0)", x.from(p, 0), -2);
            Check.due("many(" + p + ", 0)", x.many(p, 0), -2);
            Check.due("lost(" + p + ", 0)", x.lost(p, 0), -2);
            Check.due("round(" + p + ")", x.round(p), -2);
        }
        for (int time : new int[] {-1, 401, Integer.MIN_VALUE, Integer.MAX_VALUE}) {
            Check.due("many(0, " + time + ")", x.many(0, time), -2);
            Check.due("lost(0, " + time + ")", x.lost(0, time), -2);
            Check.due("passed(" + time + ")", x.passed(time), -2);
        }
        for (int k : new int[] {-1, Integer.MIN_VALUE}) {
            Check.due("felt(0, " + k + ")", x.felt(0, k), -2);
            Check.due("from(0, " + k + ")", x.from(0, k), -2);
        }
        Check.due("felt(0, greatest)", x.felt(0, Integer.MAX_VALUE), -1);
        for (int what : new int[] {-1, 3, Integer.MIN_VALUE, Integer.MAX_VALUE}) {
            Check.due("begin(" + what + ")", x.begin(what), -2);
        }
    }
}
