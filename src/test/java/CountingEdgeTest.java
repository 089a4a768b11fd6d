/** The boundary cases that the document names of counting (part 3, and promises 17 to 20), a sentence at a time. */
public final class CountingEdgeTest {
    private static final int LEAST = Integer.MIN_VALUE;
    private static final int GREATEST = Integer.MAX_VALUE;

    public static void main(String[] args) {
        lateFromAToB();
        wrongByE();
        tookT();
        theFewest();
        theMost();
        theMostIsLess();
        whatIsTold();
        limitsAtFirst();
        limitsWithAGreatSlip();
        wrongLimits();
        limitsOfPostsAlone();
        theFirstReachedAndTheLast();
        justOneReached();
        asAmounts();
        zeroIfTheMostIsLess();
        leastRowOfNumbers();
        howManyMore();
        theIth();
        notSoMany();
        fewest();
        fewestIsNoMoreThanTold();
        fewestNone();
        nobodyReached();
        Check.end();
    }

    private static void spans(int t, int a, int b, int e, int fewest, int most) {
        HandCensus x = new HandCensus();
        String call = "spans(" + t + ", " + a + ", " + b + ", " + e;
        Check.due(call + ", 0)", x.spans(t, a, b, e, 0), fewest);
        Check.due(call + ", 1)", x.spans(t, a, b, e, 1), most);
    }

    private static void bad(int t, int a, int b, int e) {
        spans(t, a, b, e, -2, -2);
    }

    private static void lateFromAToB() {
        Check.of("SPANS: with PEOPLE each LATE from a to b (1 to 9, a not more)");
        spans(18, 1, 1, 0, 18, 18);
        spans(18, 9, 9, 0, 2, 2);
        spans(18, 1, 9, 0, 2, 18);
        bad(18, 0, 9, 0);
        bad(18, 0, 0, 0);
        bad(18, 1, 0, 0);
        bad(18, 1, 10, 0);
        bad(18, 10, 10, 0);
        bad(18, -1, 9, 0);
        bad(18, 9, 8, 0);
        bad(18, 2, 1, 0);
        bad(18, LEAST, 9, 0);
        bad(18, 1, GREATEST, 0);
        bad(18, GREATEST, GREATEST, 0);
    }

    private static void wrongByE() {
        Check.of("told times that may be wrong by e (0 to 20) either way");
        spans(100, 1, 1, 0, 100, 100);
        spans(100, 1, 1, 20, 80, 120);
        bad(100, 1, 1, -1);
        bad(100, 1, 1, 21);
        bad(100, 1, 1, LEAST);
        bad(100, 1, 1, GREATEST);
    }

    private static void tookT() {
        Check.of("that took t (0 to 400)");
        spans(0, 1, 1, 0, 0, 0);
        spans(400, 1, 1, 0, 400, 400);
        spans(400, 1, 1, 20, 380, 420);
        bad(-1, 1, 1, 0);
        bad(401, 1, 1, 0);
        bad(LEAST, 1, 1, 20);
        bad(GREATEST, 1, 1, 20);
    }

    private static void theFewest() {
        Check.of("the fewest (t less e, by b, cut up; 0 at least)");
        spans(9, 1, 9, 0, 1, 9);
        spans(10, 1, 9, 0, 2, 10);
        spans(18, 1, 9, 0, 2, 18);
        spans(19, 1, 9, 0, 3, 19);
        spans(1, 1, 9, 0, 1, 1);
        spans(21, 1, 9, 20, 1, 41);
        spans(20, 1, 9, 20, 0, 40);
        spans(19, 1, 1, 20, 0, 39);
        spans(0, 1, 1, 20, 0, 20);
        spans(10, 1, 9, 20, 0, 30);
    }

    private static void theMost() {
        Check.of("the most (t and e, by a, cut)");
        spans(9, 5, 9, 0, 1, 1);
        spans(10, 5, 9, 0, 2, 2);
        spans(14, 5, 9, 0, 2, 2);
        spans(14, 5, 9, 1, 2, 3);
        spans(0, 9, 9, 8, 0, 0);
        spans(0, 9, 9, 9, 0, 1);
    }

    private static void theMostIsLess() {
        Check.of("NONE: the most is less");
        spans(8, 9, 9, 0, -1, -1);
        spans(9, 9, 9, 0, 1, 1);
        spans(10, 9, 9, 0, -1, -1);
        spans(10, 9, 9, 1, 1, 1);
        spans(11, 4, 5, 0, -1, -1);
        spans(12, 4, 5, 0, 3, 3);
        spans(400, 9, 9, 0, -1, -1);
        spans(400, 9, 9, 4, 44, 44);
    }

    private static void whatIsTold() {
        Check.of("17 spans: the fewest (what = 0), the most (1); NONE. BAD");
        HandCensus x = new HandCensus();
        for (int what : new int[] {-1, 2, LEAST, GREATEST}) {
            Check.due("spans(9, 1, 9, 0, " + what + ")", x.spans(9, 1, 9, 0, what), -2);
            Check.due("BAD ahead of NONE, what = " + what, x.spans(8, 9, 9, 0, what), -2);
        }
    }

    private static void limits(HandCensus x, int a, int b, int e, int want) {
        Check.due("limits(" + a + ", " + b + ", " + e + ")", x.limits(a, b, e), want);
    }

    private static void limitsAtFirst() {
        Check.of("18 limits: (1, 9, 0 at first): 100 a, 10 b and the lesser of e and 9 together, as they were");
        HandCensus x = new HandCensus();
        limits(x, 1, 1, 0, 190);
        limits(x, 9, 9, 0, 110);
        limits(x, 1, 9, 0, 990);
        limits(x, 1, 9, 0, 190);
    }

    private static void limitsWithAGreatSlip() {
        Check.of("18 limits: the lesser of e and 9");
        HandCensus x = new HandCensus();
        limits(x, 2, 3, 8, 190);
        limits(x, 2, 3, 9, 238);
        limits(x, 2, 3, 10, 239);
        limits(x, 2, 3, 20, 239);
        limits(x, 2, 3, 0, 239);
        limits(x, 2, 3, 0, 230);
        // of 9 by 1 to 9: with a slip of 9 up to 18, of 10 up to 19, of 20 up to 29
        HandCensus y = Check.row("p9d1");
        y.limits(1, 9, 9);
        Check.due("a slip of 9", y.doubt(0, -1), 18);
        y.limits(1, 9, 10);
        Check.due("a slip of 10", y.doubt(0, -1), 19);
        y.limits(1, 9, 20);
        Check.due("a slip of 20", y.doubt(0, -1), 29);
    }

    private static void wrongLimits() {
        Check.of("18 limits: BAD");
        HandCensus x = new HandCensus();
        x.limits(3, 7, 5);
        int[][] wrong = {{0, 9, 0}, {0, 0, 0}, {1, 0, 0}, {1, 10, 0}, {10, 10, 0}, {10, 9, 0}, {9, 8, 0}, {1, 9, -1}, {1, 9, 21},
            {LEAST, 9, 0}, {1, LEAST, 0}, {1, 9, LEAST}, {GREATEST, 9, 0}, {1, GREATEST, 0}, {1, 9, GREATEST}};
        for (int[] w : wrong) {
            limits(x, w[0], w[1], w[2], -2);
        }
        limits(x, 1, 9, 0, 375);
    }

    private static void limitsOfPostsAlone() {
        Check.of("18 limits: by which POSTS are judged, not spans()");
        HandCensus x = Check.row("p9d1");
        x.limits(9, 9, 0);
        Check.due("spans() has its own", x.spans(18, 1, 9, 0, 1), 18);
        Check.due("doubt()", x.doubt(0, -1), 0);
        x.spans(18, 1, 9, 20, 1);
        Check.due("doubt() behind spans()", x.doubt(0, -1), 0);
    }

    private static void theFirstReachedAndTheLast() {
        Check.of("POSTS: at the first of it that is REACHED and the last, and at n more between (of REACHED ones)");
        // 1 to 4 are reached: at 9, 0, 9, 18
        HandCensus x = Check.row("p1d1p9p9d1p1");
        x.set(0, 2);
        x.limits(1, 1, 0);
        Check.due("reached()", x.reached(), 0b11110);
        x.limits(1, 9, 0);
        Check.due("doubt(0, NONE): of 9", x.doubt(0, -1), 8);
        Check.due("doubt(2, 0)", x.doubt(2, 0), 2);
        Check.due("doubt(2, 1)", x.doubt(2, 1), 3);
        Check.due("doubt(2, NONE): of 9, 9, 9", x.doubt(2, -1), 24);
        Check.due("doubt(3, NONE)", x.doubt(3, -1), -3);
        // those of a fork have no posts
        HandCensus fork = Check.row("p9(p9p9)p9(p9p9op9");
        Check.due("fork: doubt(1, 0)", fork.doubt(1, 0), 3);
        Check.due("fork: doubt(2, NONE)", fork.doubt(2, -1), -3);
        // one between who is not reached
        HandCensus gap = Check.row("p9d1p1d1");
        gap.set(1, 3);
        Check.due("gap: reached()", gap.reached(), 0b1011);
        Check.due("gap: doubt(1, 0)", gap.doubt(1, 0), 1);
        Check.due("gap: doubt(2, NONE)", gap.doubt(2, -1), -3);
    }

    private static void justOneReached() {
        Check.of("if just one is REACHED, at that one alone (DOUBT 0)");
        for (String text : new String[] {"p9", "d9p9", "d9(p9p9op9"}) {
            HandCensus x = Check.row(text);
            x.limits(1, 9, 20);
            Check.due("doubt(0, NONE) of " + text, x.doubt(0, -1), 0);
            Check.due("doubt(1, NONE) of " + text, x.doubt(1, -1), -3);
            Check.due("doubt(5, 4) of " + text, x.doubt(5, 4), -3);
            Check.due("posts(0) of " + text, x.posts(0), 0);
        }
        // two of one TIME have a doubt by the slips
        HandCensus two = Check.row("d1d1");
        two.set(1, 1);
        two.limits(1, 9, 20);
        Check.due("two: doubt(0, NONE)", two.doubt(0, -1), 20);
    }

    private static void asAmounts() {
        Check.of("of the TIME between (as amounts)");
        HandCensus x = Check.row("p9p9p9");
        Check.due("onward", x.doubt(0, -1), 16);
        x.set(0, 2);
        Check.due("back", x.doubt(0, -1), 16);
        Check.due("back, one between", x.doubt(1, -1), 16);
        x.set(0, 1);
        Check.due("no TIME between", x.doubt(0, -1), 0);
        Check.due("there and back", x.doubt(1, -1), 16);
    }

    private static void zeroIfTheMostIsLess() {
        Check.of("together (0, if the most is less)");
        // at 0, 3 and 23; by 4 to 5: of 3: 0 less 1; of 20: 5 less 4; of 23: 5 less 5
        HandCensus x = Check.row("p3d1d1");
        x.set(1, 2);
        x.set(2, 23);
        x.limits(4, 5, 0);
        Check.due("doubt(1, NONE)", x.doubt(1, -1), 1);
        Check.due("doubt(0, NONE)", x.doubt(0, -1), 0);
        x.set(2, 14);
        // of 14: 3 less 3; of 11: 2 less 3
        Check.due("doubt(1, NONE), both less", x.doubt(1, -1), 0);
    }

    private static void leastRowOfNumbers() {
        Check.of("the least by any n, of like ones the least row of numbers");
        HandCensus x = Check.row("p9".repeat(20));
        for (int n = 1; n <= 5; n++) {
            for (int i = 0; i < n; i++) {
                Check.due("alike: doubt(" + n + ", " + i + ")", x.doubt(n, i), i + 1);
            }
        }
        // at 0, 1, 2, 3, 6, 9 by 3 to 3: no gap has a doubt
        x = Check.row("p1p1p1p3p3p3");
        x.limits(3, 3, 0);
        Check.due("none: doubt(2, 0)", x.doubt(2, 0), 1);
        Check.due("none: doubt(2, 1)", x.doubt(2, 1), 2);
        // by 2 to 3: of 9: 1; of 1: 0 and 8: 1; of 2: 0 and 7: 0
        x.limits(2, 3, 0);
        Check.due("doubt(0, NONE)", x.doubt(0, -1), 1);
        Check.due("doubt(1, NONE)", x.doubt(1, -1), 0);
        Check.due("doubt(1, 0)", x.doubt(1, 0), 2);
        // with 1 ahead of another: of 1: 0; of 1, 2 or 5: 0, 0, 0 and of 7, 6, 3: 0, 1, 0
        Check.due("doubt(2, NONE)", x.doubt(2, -1), 0);
        Check.due("doubt(2, 0)", x.doubt(2, 0), 1);
        Check.due("doubt(2, 1)", x.doubt(2, 1), 2);
    }

    private static void howManyMore() {
        Check.of("19 doubt: with n more POSTS (0 to 5). BAD");
        HandCensus x = Check.row("p9".repeat(20));
        for (int n : new int[] {-1, 6, 7, LEAST, GREATEST}) {
            Check.due("doubt(" + n + ", NONE)", x.doubt(n, -1), -2);
            Check.due("doubt(" + n + ", 0)", x.doubt(n, 0), -2);
            Check.due("BAD ahead of NOT: doubt(" + n + ", NONE)", new HandCensus().doubt(n, -1), -2);
        }
        Check.due("doubt(0, NONE)", x.doubt(0, -1), 152);
        Check.due("doubt(5, NONE)", x.doubt(5, -1), 152);
    }

    private static void theIth() {
        Check.of("19 doubt: (i = NONE), the i-th of these (0 on). BAD: also beyond");
        HandCensus x = Check.row("p9".repeat(20));
        for (int n = 0; n <= 5; n++) {
            for (int i : new int[] {-2, n, n + 1, LEAST, GREATEST}) {
                Check.due("doubt(" + n + ", " + i + ")", x.doubt(n, i), -2);
                Check.due("BAD ahead of NOT: doubt(" + n + ", " + i + ")", new HandCensus().doubt(n, i), -2);
            }
        }
        Check.due("doubt(1, 0)", x.doubt(1, 0), 1);
        Check.due("doubt(5, 4)", x.doubt(5, 4), 5);
    }

    private static void notSoMany() {
        Check.of("19 doubt: NOT: there are not so many");
        for (int people = 0; people <= 8; people++) {
            HandCensus x = Check.row("p9".repeat(people));
            for (int n = 0; n <= 5; n++) {
                boolean enough = n == 0 ? people > 0 : people >= n + 2;
                int want = enough ? 8 * (people - 1) : -3;
                Check.due("doubt(" + n + ", NONE) of " + people, x.doubt(n, -1), want);
                if (n > 0) {
                    Check.due("doubt(" + n + ", 0) of " + people, x.doubt(n, 0), enough ? 1 : -3);
                    Check.due("the last of " + n + " of " + people, x.doubt(n, n - 1), enough ? n : -3);
                }
            }
        }
    }

    private static void fewest() {
        Check.of("20 posts: FEWEST (0 to 5); BAD (0 to 9999)");
        HandCensus x = Check.row("p3".repeat(7));
        x.limits(2, 3, 0);
        Check.due("posts(0)", x.posts(0), 5);
        Check.due("posts(9999)", x.posts(9999), 0);
        for (int doubt : new int[] {-1, 10000, LEAST, GREATEST}) {
            Check.due("posts(" + doubt + ")", x.posts(doubt), -2);
            Check.due("BAD ahead of NOT: posts(" + doubt + ")", new HandCensus().posts(doubt), -2);
        }
    }

    private static void fewestIsNoMoreThanTold() {
        Check.of("FEWEST: the least n with a DOUBT no more than told");
        HandCensus x = Check.row("p3".repeat(7));
        x.limits(2, 3, 0);
        // the least doubts are 3, 2, 2, 1, 1, 0
        int[] least = {3, 2, 2, 1, 1, 0};
        for (int n = 0; n <= 5; n++) {
            Check.due("doubt(" + n + ", NONE)", x.doubt(n, -1), least[n]);
        }
        int[] fewest = {5, 3, 1, 0, 0};
        for (int doubt = 0; doubt < fewest.length; doubt++) {
            Check.due("posts(" + doubt + ")", x.posts(doubt), fewest[doubt]);
        }
        // more posts with more doubt: with a slip of 5 by 1 to 1 each gap has 10
        HandCensus slips = Check.row("p9p9p9p9");
        slips.limits(1, 1, 5);
        Check.due("slips: posts(10)", slips.posts(10), 0);
        Check.due("slips: posts(29)", slips.posts(29), 0);
    }

    private static void fewestNone() {
        Check.of("20 posts: NONE");
        Check.due("posts(151)", Check.row("p9".repeat(20)).posts(151), -1);
        Check.due("posts(152)", Check.row("p9".repeat(20)).posts(152), 0);
        HandCensus eight = Check.row("p3".repeat(8));
        eight.limits(2, 3, 0);
        Check.due("six between, five at most: posts(0)", eight.posts(0), -1);
        HandCensus two = Check.row("p9p9");
        Check.due("none between: posts(7)", two.posts(7), -1);
        Check.due("none between: posts(8)", two.posts(8), 0);
    }

    private static void nobodyReached() {
        Check.of("20 posts: NOT: nobody of the main SECTION is REACHED");
        Check.due("nobody: posts(0)", new HandCensus().posts(0), -3);
        Check.due("nobody: posts(9999)", new HandCensus().posts(9999), -3);
        HandCensus x = Check.row("p1(d1p1)");
        x.set(0, 2);
        Check.due("in a fork alone: posts(9999)", x.posts(9999), -3);
        Check.due("in a fork alone: doubt(0, NONE)", x.doubt(0, -1), -3);
        x.set(0, 19);
        Check.due("nothing begins: posts(9999)", x.posts(9999), -3);
    }
}
