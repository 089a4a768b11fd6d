/** Promises 17 to 20: spans, limits, doubt, posts. */
public final class CountingTest {
    public static void main(String[] args) {
        spans();
        wrongSpans();
        limits();
        doubts();
        leastRowOfNumbers();
        twenty();
        onlyReachedOfTheMainSection();
        oneAlone();
        amounts();
        posts();
        morePostsMoreDoubt();
        nobodyReached();
        wrongNumbers();
        Check.end();
    }

    private static void spanned(int t, int a, int b, int e, int fewest, int most) {
        HandCensus x = new HandCensus();
        String call = "spans(" + t + ", " + a + ", " + b + ", " + e;
        Check.due(call + ", 0)", x.spans(t, a, b, e, 0), fewest);
        Check.due(call + ", 1)", x.spans(t, a, b, e, 1), most);
    }

    private static void spans() {
        spanned(0, 1, 9, 0, 0, 0);
        spanned(0, 9, 9, 20, 0, 2);
        spanned(1, 1, 9, 0, 1, 1);
        spanned(9, 1, 9, 0, 1, 9);
        spanned(10, 1, 9, 0, 2, 10);
        spanned(10, 3, 4, 0, 3, 3);
        spanned(10, 3, 4, 2, 2, 4);
        spanned(5, 3, 4, 5, 0, 3);
        spanned(5, 3, 4, 6, 0, 3);
        spanned(5, 3, 4, 4, 1, 3);
        spanned(11, 6, 7, 0, -1, -1);
        spanned(12, 6, 7, 0, 2, 2);
        spanned(400, 1, 1, 20, 380, 420);
        spanned(400, 9, 9, 0, -1, -1);
    }

    private static void wrongSpans() {
        HandCensus x = new HandCensus();
        int[][] wrong = {{-1, 1, 9, 0, 0}, {401, 1, 9, 0, 0}, {5, 0, 9, 0, 0}, {5, 10, 10, 0, 0}, {5, 1, 10, 0, 0},
            {5, 5, 4, 0, 0}, {5, 1, 0, 0, 0}, {5, 1, 9, -1, 0}, {5, 1, 9, 21, 0}, {5, 1, 9, 0, -1}, {5, 1, 9, 0, 2},
            {5, Integer.MIN_VALUE, 9, 0, 0}, {Integer.MAX_VALUE, 1, 9, 20, 1}};
        for (int[] w : wrong) {
            Check.due("wrong spans(" + java.util.Arrays.toString(w) + ")", x.spans(w[0], w[1], w[2], w[3], w[4]), -2);
        }
        Check.due("spans(5, 4, 4, 0, 0)", x.spans(5, 4, 4, 0, 0), -1);
    }

    private static void limits() {
        HandCensus x = new HandCensus();
        Check.due("limits(2, 3, 20)", x.limits(2, 3, 20), 190);
        Check.due("limits(9, 9, 9)", x.limits(9, 9, 9), 239);
        Check.due("limits(1, 1, 8)", x.limits(1, 1, 8), 999);
        int[][] wrong = {{0, 9, 0}, {1, 10, 0}, {3, 2, 0}, {10, 10, 0}, {1, 9, -1}, {1, 9, 21}};
        for (int[] w : wrong) {
            Check.due("wrong limits(" + java.util.Arrays.toString(w) + ")", x.limits(w[0], w[1], w[2]), -2);
        }
        Check.due("limits as they were", x.limits(1, 9, 0), 118);
        // a slip above 9 is told as 9, but counts whole: of 9 from 0 to 29
        HandCensus y = Check.row("p9p1");
        y.limits(1, 9, 20);
        Check.due("doubt(0, NONE) with a slip of 20", y.doubt(0, -1), 29);
    }

    private static void doubts() {
        // times 0, 1, 3, 6, 10
        HandCensus x = Check.row("p1p2p3p4p5");
        Check.due("doubt(0, NONE), limits at first", x.doubt(0, -1), 8);
        x.limits(2, 3, 0);
        Check.due("doubt(0, NONE)", x.doubt(0, -1), 1);
        Check.due("doubt(1, NONE)", x.doubt(1, -1), 0);
        Check.due("doubt(1, 0)", x.doubt(1, 0), 2);
        Check.due("doubt(2, NONE)", x.doubt(2, -1), 0);
        Check.due("doubt(2, 0)", x.doubt(2, 0), 1);
        Check.due("doubt(2, 1)", x.doubt(2, 1), 2);
        Check.due("doubt(3, NONE)", x.doubt(3, -1), 0);
        for (int i = 0; i < 3; i++) {
            Check.due("doubt(3, " + i + ")", x.doubt(3, i), i + 1);
        }
        Check.due("doubt(4, NONE)", x.doubt(4, -1), -3);
        Check.due("doubt(4, 3)", x.doubt(4, 3), -3);
        Check.due("doubt(5, NONE)", x.doubt(5, -1), -3);
        Check.due("doubt(5, 4)", x.doubt(5, 4), -3);
    }

    private static void leastRowOfNumbers() {
        // nine each: all rows are alike with limits 9, 9, 0
        HandCensus x = Check.row("p9p9p9p9p9p9p9p9");
        x.limits(9, 9, 0);
        for (int n = 0; n <= 5; n++) {
            Check.due("alike: doubt(" + n + ", NONE)", x.doubt(n, -1), 0);
            for (int i = 0; i < n; i++) {
                Check.due("alike: doubt(" + n + ", " + i + ")", x.doubt(n, i), i + 1);
            }
        }
        // times 0, 8, 13, 18, 23; by 5 to 6 no gap has a doubt, so it is the least row
        HandCensus y = Check.row("p8p5p5p5p5");
        y.limits(5, 6, 0);
        Check.due("least row: doubt(2, NONE)", y.doubt(2, -1), 0);
        Check.due("least row: doubt(2, 0)", y.doubt(2, 0), 1);
        Check.due("least row: doubt(2, 1)", y.doubt(2, 1), 2);
        // by 4 to 6: of 23: 5 - 4; of 8: 2 - 2; of 15: 3 - 3
        y.limits(4, 6, 0);
        Check.due("counts: doubt(0, NONE)", y.doubt(0, -1), 1);
        Check.due("counts: doubt(1, NONE)", y.doubt(1, -1), 0);
        Check.due("counts: doubt(1, 0)", y.doubt(1, 0), 1);
        y.limits(2, 9, 0);
        // of 23: 11 - 3 = 8; 8 + 15: (4 - 1) + (7 - 2) = 8; 13 + 10: (6 - 2) + (5 - 2) = 7; 18 + 5: (9 - 2) + (2 - 1) = 8
        Check.due("the middle: doubt(0, NONE)", y.doubt(0, -1), 8);
        Check.due("the middle: doubt(1, NONE)", y.doubt(1, -1), 7);
        Check.due("the middle: doubt(1, 0)", y.doubt(1, 0), 2);
        // 8 + 5 + 10: 3 + 1 + 3; 8 + 10 + 5: 3 + 3 + 1; 13 + 5 + 5: 4 + 1 + 1
        Check.due("the middle: doubt(2, NONE)", y.doubt(2, -1), 6);
        Check.due("the middle: doubt(2, 0)", y.doubt(2, 0), 2);
        Check.due("the middle: doubt(2, 1)", y.doubt(2, 1), 3);
    }

    private static void twenty() {
        // times 0, 9 .. 171; by 1 to 9 every 9 has a doubt of 8, however it is cut
        HandCensus x = Check.row("p9p9p9p9p9p9p9p9p9p9p9p9p9p9p9p9p9p9p9p9");
        for (int n = 0; n <= 5; n++) {
            Check.due("twenty: doubt(" + n + ", NONE)", x.doubt(n, -1), 152);
            for (int i = 0; i < n; i++) {
                Check.due("twenty: doubt(" + n + ", " + i + ")", x.doubt(n, i), i + 1);
            }
        }
        Check.due("twenty: posts(151)", x.posts(151), -1);
        Check.due("twenty: posts(152)", x.posts(152), 0);
        // times 0, 3 .. 54, 55; of 55 by 3 to 3: 18, but no fewer than 19
        HandCensus y = Check.row("p3p3p3p3p3p3p3p3p3p3p3p3p3p3p3p3p3p3p1p1");
        y.limits(3, 3, 0);
        Check.due("quick at the end: doubt(0, NONE)", y.doubt(0, -1), 0);
        y.limits(1, 3, 0);
        // of 55: 55 - 19; of 54 and 1: 54 - 18, and 1 - 1
        Check.due("quick at the end: doubt(0, NONE), by 1 to 3", y.doubt(0, -1), 36);
        Check.due("quick at the end: doubt(5, NONE), by 1 to 3", y.doubt(5, -1), 36);
        Check.due("quick at the end: doubt(5, 4), by 1 to 3", y.doubt(5, 4), 5);
    }

    private static void onlyReachedOfTheMainSection() {
        HandCensus fork = Check.row("p1(p1p1)p1");
        Check.due("fork: doubt(0, NONE)", fork.doubt(0, -1), 0);
        Check.due("fork: doubt(1, NONE)", fork.doubt(1, -1), -3);
        // 2 lies between two who sleep
        HandCensus x = Check.row("p1d1p1d1p1");
        x.set(1, 4);
        Check.due("sleepers: doubt(2, 0)", x.doubt(2, 0), 1);
        Check.due("sleepers: doubt(2, 1)", x.doubt(2, 1), 3);
        Check.due("sleepers: doubt(3, NONE)", x.doubt(3, -1), -3);
        // the first that is reached and the last: 1 to 3, as 0 and 4 are behind sleepers
        HandCensus y = Check.row("p1d1p4d1p1");
        y.set(0, 2);
        Check.due("inner: doubt(0, NONE)", y.doubt(0, -1), 0);
        Check.due("inner: doubt(1, NONE)", y.doubt(1, -1), 6);
        Check.due("inner: doubt(1, 0)", y.doubt(1, 0), 2);
        Check.due("inner: doubt(2, NONE)", y.doubt(2, -1), -3);
    }

    private static void oneAlone() {
        HandCensus x = Check.row("d1p1");
        x.limits(1, 9, 20);
        Check.due("alone: doubt(0, NONE)", x.doubt(0, -1), 0);
        Check.due("alone: doubt(1, NONE)", x.doubt(1, -1), -3);
        Check.due("alone: doubt(1, 0)", x.doubt(1, 0), -3);
        Check.due("alone: posts(0)", x.posts(0), 0);
    }

    private static void amounts() {
        HandCensus x = Check.row("p9p9p9");
        x.set(0, 2);
        Check.due("backwards: doubt(0, NONE)", x.doubt(0, -1), 16);
        x.set(0, 1);
        // 9, 0, 9: no time between the first and the last
        Check.due("from the middle: doubt(0, NONE)", x.doubt(0, -1), 0);
        Check.due("from the middle: doubt(1, NONE)", x.doubt(1, -1), 16);
    }

    private static void posts() {
        HandCensus x = Check.row("p1p2p3p4p5");
        x.limits(2, 3, 0);
        Check.due("posts(0)", x.posts(0), 1);
        Check.due("posts(1)", x.posts(1), 0);
        Check.due("posts(9999)", x.posts(9999), 0);
        HandCensus y = Check.row("p9p9");
        Check.due("posts(7)", y.posts(7), -1);
        Check.due("posts(8)", y.posts(8), 0);
        // times 0, 3, 6, 9, 12, 15, 18 by 2 to 3: a gap of 3: 0, of 6: 1, of 9: 1, of 12: 2, of 15: 2, of 18: 3
        HandCensus z = Check.row("p3p3p3p3p3p3p3");
        z.limits(2, 3, 0);
        Check.due("by threes: posts(3)", z.posts(3), 0);
        Check.due("by threes: posts(2)", z.posts(2), 1);
        Check.due("by threes: posts(1)", z.posts(1), 3);
        Check.due("by threes: posts(0)", z.posts(0), 5);
        Check.due("by threes: doubt(1, 0)", z.doubt(1, 0), 1);
        Check.due("by threes: doubt(2, NONE)", z.doubt(2, -1), 2);
        Check.due("by threes: doubt(3, NONE)", z.doubt(3, -1), 1);
        Check.due("by threes: doubt(4, NONE)", z.doubt(4, -1), 1);
        // eight people have six between, of which five may be posts
        HandCensus w = Check.row("p3p3p3p3p3p3p3p3");
        w.limits(2, 3, 0);
        Check.due("eight: posts(0)", w.posts(0), -1);
        Check.due("eight: posts(1)", w.posts(1), 4);
    }

    private static void morePostsMoreDoubt() {
        // with a slip of 5 by 1 to 1 each gap has a doubt of 10, however long it is
        HandCensus x = Check.row("p9p9p9");
        x.limits(1, 1, 5);
        Check.due("slips: doubt(0, NONE)", x.doubt(0, -1), 10);
        Check.due("slips: doubt(1, NONE)", x.doubt(1, -1), 20);
        Check.due("slips: posts(10)", x.posts(10), 0);
        Check.due("slips: posts(9)", x.posts(9), -1);
    }

    private static void nobodyReached() {
        HandCensus x = Check.row("p1p1");
        x.set(0, 5);
        Check.due("nobody: doubt(0, NONE)", x.doubt(0, -1), -3);
        Check.due("nobody: posts(0)", x.posts(0), -3);
        // somebody is reached, but not of the main section
        HandCensus y = Check.row("p1(d1p1)");
        y.set(0, 2);
        Check.due("fork alone: reached()", y.reached(), 6);
        Check.due("fork alone: doubt(0, NONE)", y.doubt(0, -1), -3);
        Check.due("fork alone: posts(9999)", y.posts(9999), -3);
    }

    private static void wrongNumbers() {
        HandCensus nobody = new HandCensus();
        HandCensus x = Check.row("p1p1p1p1p1p1p1p1");
        int[][] wrong = {{-1, -1}, {6, -1}, {0, 0}, {1, 1}, {5, 5}, {3, -2}, {Integer.MAX_VALUE, -1}, {2, Integer.MIN_VALUE}};
        for (int[] w : wrong) {
            Check.due("doubt(" + w[0] + ", " + w[1] + ")", x.doubt(w[0], w[1]), -2);
            Check.due("doubt(" + w[0] + ", " + w[1] + ") of nobody", nobody.doubt(w[0], w[1]), -2);
        }
        for (int doubt : new int[] {-1, 10000, Integer.MIN_VALUE, Integer.MAX_VALUE}) {
            Check.due("posts(" + doubt + ")", x.posts(doubt), -2);
            Check.due("posts(" + doubt + ") of nobody", nobody.posts(doubt), -2);
        }
    }
}
