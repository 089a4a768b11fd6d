/** Promises 36 and 37: count, digest. */
public final class DigestTest {
    public static void main(String[] args) {
        counts();
        wrongCounts();
        digestOfNew();
        digestOfThree();
        digestOfARing();
        digestOfPosts();
        digestChangesNothing();
        Check.end();
    }

    private static void counts() {
        HandCensus x = Check.row("p1(p1p1o(t1)p1");
        x.heard(0, 0);
        x.heard(5, 0);
        x.census(4, 4);
        x.births(0, 7);
        x.births(99, 8);
        x.get(0, 0, 0);
        int[] want = {5, 14, 2, 5, 2, 1, 15};
        for (int what = 0; what < want.length; what++) {
            Check.due("count(" + what + ")", x.count(what), want[what]);
        }
        int all = 0;
        for (int p = 0; p < 5; p++) {
            all += x.lost(p, 400);
        }
        Check.holds("something is lost", all > 0);
        Check.due("count(7)", x.count(7), all);
        Check.due("count(8)", x.count(8), 1);
    }

    private static void wrongCounts() {
        HandCensus x = new HandCensus();
        for (int what : new int[] {-1, 9, Integer.MIN_VALUE, Integer.MAX_VALUE}) {
            Check.due("count(" + what + ")", x.count(what), -2);
        }
    }

    private static long fold(long... values) {
        long h = 17;
        for (long v : values) {
            h = 31 * h + v;
        }
        return h;
    }

    private static void digestOfNew() {
        long want = fold(0, 0, 0, 0, 0, 0, 0, 0, -1, 0, -1, 0, -1, 0, -1, 0, -3, -3, 0, 0, 1, 0, 0, 0);
        Check.due("new: digest()", new HandCensus().digest(), want);
    }

    private static void digestOfThree() {
        // times: 0 at 0; 1 (with a scarf) at 5 and 7; 2 at 6, and at 8
        HandCensus x = Check.row("t2sp1p1");
        x.limits(2, 3, 0);
        x.heard(2, -1);
        x.heard(1, 5);
        x.census(5, 10);
        x.census(6, 20);
        x.births(5, 3);
        x.put(0, 0, 0, 0);
        long want = fold(3, 7, 3, 2, 2, 2, 3, 0, -1,
            1, 2, 0, 2, 1, 0, -1, 1, 0, -1,
            0, 1, 1, 5, 1, 5, 7, 2, 0, 2,
            0, 1, 0, 2, 1, 6, 8, 2, 0, 2,
            // from 1: 2 at 1, 0 at 4; from 2: 1 at 1, 0 at 5
            7, 6, 6, 1, 3, 4, 5,
            // of 5: 2 - 2 and of 1: 0; of 6: 3 - 2; 1 alone might have slept
            0, 0, 1, 2, 0, 1, 1, 1);
        Check.due("three: digest()", x.digest(), want);
    }

    private static void digestOfARing() {
        // 0 at 0, 3, 6 ..; 1 at 1, 2, 5, 8 ..; 2 at 1, 2, 4, 7 ..
        long want = fold(3, 8, 1, 3, 0, 0, 0, 1, -1,
            0, 1, 0, 6, 1, 0, 3, 34, 1, 3,
            0, 1, 0, 5, 0, 1, 2, 34, 0, 1,
            0, 1, 0, 3, 0, 1, 2, 35, 0, 1,
            7, 1, 7, 0, 3, 1, 53,
            -3, 0, 0, 7, 1, 0, 0, 0);
        Check.due("a ring: digest()", Check.row("p1(p1p1o").digest(), want);
    }

    private static void digestOfPosts() {
        // of 9 with a slip of 11: 20 - 0, which is no more than 20; with a slip of 12 it is more
        for (int slip = 11; slip <= 12; slip++) {
            HandCensus x = Check.row("p9p1");
            x.limits(1, 9, slip);
            long want = fold(2, 4, 2, 1, 0, 0, 0, 0, -1,
                0, 9, 0, 2, 1, 0, -1, 1, 0, -1,
                0, 1, 0, 1, 1, 9, -1, 1, 0, -1,
                3, 9, 0, 1, 2, 1, 2,
                -3, slip == 11 ? 0 : -1, 0, 3, 1, 0, 0, 0);
            Check.due("a slip of " + slip + ": digest()", x.digest(), want);
        }
    }

    private static void digestChangesNothing() {
        HandCensus x = Check.row("p1p2(t1c1op3");
        x.set(1, 3);
        x.sheet(0, 0, -1);
        long once = x.digest();
        Check.due("digest() again", x.digest(), once);
        Check.due("count(8) behind digest()", x.count(8), 5);
        Check.due("SECOND behind digest()", x.set(1, 3), 3);
    }
}
