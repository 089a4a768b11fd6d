import java.math.BigInteger;

/** The boundary cases that the document names of promises 36 and 37, a sentence at a time. */
public final class DigestEdgeTest {
    private static final int LEAST = Integer.MIN_VALUE;
    private static final int GREATEST = Integer.MAX_VALUE;

    public static void main(String[] args) {
        ofANewObject();
        people();
        bytes();
        mainSection();
        pairs();
        heard();
        censuses();
        births();
        lost();
        latestFinding();
        refused();
        wrapsAround();
        ofNobody();
        asTheyAreTold();
        findingsAreNotInIt();
        Check.end();
    }

    private static void count(HandCensus x, int what, int want) {
        Check.due("count(" + what + ")", x.count(what), want);
    }

    private static void ofANewObject() {
        Check.of("36 count: of a new object");
        for (int what = 0; what <= 8; what++) {
            count(new HandCensus(), what, 0);
        }
    }

    private static void people() {
        Check.of("36 count: 0 PEOPLE");
        count(Check.row("p1"), 0, 1);
        count(Check.row("p1".repeat(20)), 0, 20);
        count(Check.row("p1".repeat(21)), 0, 0);
        count(Check.row("p1p"), 0, 0);
    }

    private static void bytes() {
        Check.of("36 count: 1 bytes of THE ROW");
        count(Check.row("p1p"), 1, 3);
        count(Check.row("x".repeat(60)), 1, 60);
        count(Check.row("x".repeat(61)), 1, 60);
    }

    private static void mainSection() {
        Check.of("36 count: 2 of the main SECTION");
        count(Check.row("p1(p1p1p1o"), 2, 1);
        count(Check.row("p1(p1p1p1op1"), 2, 2);
        count(Check.row("p1".repeat(20)), 2, 20);
    }

    private static void pairs() {
        Check.of("36 count: 3 pairs that hold hands");
        count(Check.row("p1"), 3, 0);
        count(Check.row("p1p1"), 3, 1);
        count(Check.row("p1(p1p1o"), 3, 3);
        count(Check.row("p1".repeat(20)), 3, 19);
        // each ring of two has three pairs with the one that it is a fork of
        count(Check.row("p1" + "(p1p1o".repeat(9) + "p1"), 3, 28);
        count(Check.row("p1(" + "p1".repeat(19) + "o"), 3, 20);
    }

    private static void heard() {
        Check.of("36 count: 4 HEARD");
        HandCensus x = new HandCensus();
        for (int n = 1; n <= 14; n++) {
            x.heard(0, 0);
            count(x, 4, Math.min(n, 12));
        }
        x.forget();
        count(x, 4, 0);
    }

    private static void censuses() {
        Check.of("36 count: 5 CENSUSES");
        HandCensus x = new HandCensus();
        for (int n = 1; n <= 10; n++) {
            x.census(0, 0);
            count(x, 5, Math.min(n, 8));
        }
    }

    private static void births() {
        Check.of("36 count: 6 all BIRTHS together");
        HandCensus x = new HandCensus();
        x.births(0, 999);
        x.births(99, 998);
        count(x, 6, 1997);
        x.births(0, 0);
        count(x, 6, 998);
        for (int year = 0; year < 100; year++) {
            x.births(year, 999);
        }
        count(x, 6, 99900);
    }

    private static void lost() {
        Check.of("36 count: 7 all that were LOST up to 400");
        count(Check.row("p1"), 7, 0);
        // with 0 at 400 the last two: see SqueezeEdgeTest
        count(Check.row("p4(p3p3o(p3p3o"), 7, 81);
        count(Check.row("p1p4(p3p3o(p3p3o"), 7, 79);
        HandCensus x = Check.row("p1p1");
        x.set(1, 0);
        count(x, 7, 1);
        x.set(2, 1);
        count(x, 7, 0);
        x.set(2, 0);
        count(x, 7, 1);
        x.type('p');
        count(x, 7, 0);
    }

    private static void latestFinding() {
        Check.of("36 count: 8 the number of the latest FINDING (0 before any)");
        HandCensus x = new HandCensus();
        count(x, 8, 0);
        x.sheet(0, 0, -1);
        count(x, 8, 5);
        x.lose(0);
        count(x, 8, 1);
        x.count(9);
        count(x, 8, 1);
    }

    private static void refused() {
        Check.of("36 count: BAD");
        for (int what : new int[] {-1, 9, LEAST, GREATEST}) {
            count(new HandCensus(), what, -2);
            count(Check.row("p1p1"), what, -2);
        }
    }

    private static BigInteger next(BigInteger h, long v) {
        return h.multiply(BigInteger.valueOf(31)).add(BigInteger.valueOf(v));
    }

    // The number without wrapping: its lowest 64 bits are the digest.
    private static BigInteger whole(HandCensus x) {
        BigInteger h = BigInteger.valueOf(17);
        for (int what = 0; what <= 7; what++) {
            h = next(h, x.count(what));
        }
        h = next(h, x.fault());
        for (int p = 0; p < x.count(0); p++) {
            for (int what = 0; what <= 4; what++) {
                h = next(h, x.person(p, what));
            }
            int[] told = {x.felt(p, 0), x.felt(p, 1), x.many(p, 100), x.lost(p, 400), x.round(p)};
            for (int v : told) {
                h = next(h, v);
            }
        }
        int[] told = {x.reached(), x.last(), x.twice(), x.begin(0), x.begin(1), x.begin(2), x.passed(50), x.doubt(1, -1),
            x.posts(20), x.unlike(), x.asleep(0), x.asleep(1), x.leave(0), x.leave(1), x.leave(2)};
        for (int v : told) {
            h = next(h, v);
        }
        return h;
    }

    private static void wrapsAround() {
        Check.of("37 digest: as longs that wrap");
        String[] texts = {"", "x", "p1", "d1", "p1p1", "p1(p1p1o", "t2sp1(c1p3o(d4)p5", "p9".repeat(20), "sp9".repeat(20),
            "p1" + "(t1t1o".repeat(9) + "p1", "x".repeat(60)};
        for (String text : texts) {
            HandCensus x = Check.row(text);
            x.census(3, 3);
            x.census(4, 9999);
            x.births(9, 999);
            x.heard(0, 0);
            x.heard(19, 400);
            BigInteger whole = whole(x);
            Check.due("digest() of " + text, x.digest(), whole.longValue());
            Check.holds("it is more than a long has", whole.bitLength() > 63);
        }
    }

    private static void ofNobody() {
        Check.of("37 digest: of PEOPLE, when there are none");
        long h = 17;
        int[] told = {0, 0, 0, 0, 0, 0, 0, 0, -1, 0, -1, 0, -1, 0, -1, 0, -3, -3, 0, 0, 1, 0, 0, 0};
        for (int v : told) {
            h = 31 * h + v;
        }
        Check.due("digest()", new HandCensus().digest(), h);
        HandCensus x = Check.row("p1");
        x.wipe();
        Check.due("digest() when it is empty again", x.digest(), h);
    }

    private static void asTheyAreTold() {
        Check.of("37 digest: doubt(1, NONE), posts(20) (as they are told)");
        // NOT of one alone, NOT of nobody REACHED, NONE of too much doubt
        String[] texts = {"p1", "p1p1", "p1p1p1", "p9p9p9p9p9", "p1(d1p1)"};
        for (String text : texts) {
            HandCensus x = Check.row(text);
            x.limits(1, 9, 20);
            x.set(0, 2);
            Check.due("digest() of " + text + " from 2", x.digest(), whole(x).longValue());
            x.set(0, 0);
            Check.due("digest() of " + text, x.digest(), whole(x).longValue());
        }
    }

    private static void findingsAreNotInIt() {
        Check.of("37 digest: count() 0 to 7, not 8; and it changes nothing");
        HandCensus x = Check.row("p1p1");
        long before = x.digest();
        x.sheet(0, 0, -1);
        Check.due("digest() behind a FINDING", x.digest(), before);
        Check.due("count(8) behind digest()", x.count(8), 5);
        x.sheet(0, 0, 5);
        x.put(0, 0, 0, 5);
        Check.due("digest() behind a SHEET", x.digest(), before);
    }
}
