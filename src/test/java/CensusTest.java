/** Promises 26 to 29: census, births, cannot, leave. */
public final class CensusTest {
    public static void main(String[] args) {
        censuses();
        births();
        cannot();
        oneYear();
        wrongPairs();
        leaving();
        leastAsBits();
        wrongNumbers();
        Check.end();
    }

    private static void censuses() {
        HandCensus x = new HandCensus();
        int[][] wrong = {{-1, 0}, {100, 0}, {0, -1}, {0, 10000}, {Integer.MIN_VALUE, 0}, {0, Integer.MAX_VALUE}};
        for (int[] w : wrong) {
            Check.due("census(" + w[0] + ", " + w[1] + ")", x.census(w[0], w[1]), -2);
        }
        Check.due("census(0, 0)", x.census(0, 0), 0);
        Check.due("census(99, 9999)", x.census(99, 9999), 1);
        for (int n = 2; n < 8; n++) {
            Check.due("census, number " + n, x.census(5, 5), n);
        }
        Check.due("census, the ninth", x.census(5, 5), -4);
        Check.due("census(100, 0), full", x.census(100, 0), -2);
        Check.due("count(5)", x.count(5), 8);
    }

    private static void births() {
        HandCensus x = new HandCensus();
        Check.due("births(0, 999)", x.births(0, 999), 0);
        Check.due("births(0, 1)", x.births(0, 1), 999);
        Check.due("births(99, 5)", x.births(99, 5), 0);
        int[][] wrong = {{-1, 0}, {100, 0}, {0, -1}, {0, 1000}, {Integer.MAX_VALUE, 0}, {0, Integer.MIN_VALUE}};
        for (int[] w : wrong) {
            Check.due("births(" + w[0] + ", " + w[1] + ")", x.births(w[0], w[1]), -2);
        }
        Check.due("count(6)", x.count(6), 6);
        Check.due("births(0, 0)", x.births(0, 0), 1);
        Check.due("count(6) then", x.count(6), 5);
    }

    private static void cannot() {
        HandCensus x = new HandCensus();
        x.census(20, 110);
        x.census(10, 100);
        Check.due("10 more, no births", x.cannot(0, 1), 1);
        Check.due("the other way round", x.cannot(1, 0), 1);
        x.births(9, 500);
        x.births(20, 500);
        Check.due("births of other YEARS", x.cannot(0, 1), 1);
        x.births(10, 4);
        x.births(19, 5);
        Check.due("9 births", x.cannot(0, 1), 1);
        x.births(15, 1);
        Check.due("10 births", x.cannot(0, 1), 0);
        Check.due("10 births, the other way round", x.cannot(1, 0), 0);
        x.census(30, 0);
        Check.due("fewer later on", x.cannot(0, 2), 0);
        x.census(11, 105);
        Check.due("a YEAR later, 4 births", x.cannot(1, 3), 1);
        x.births(10, 5);
        Check.due("a YEAR later, 5 births", x.cannot(3, 1), 0);
    }

    private static void oneYear() {
        HandCensus x = new HandCensus();
        x.births(7, 900);
        x.census(7, 50);
        x.census(7, 51);
        x.census(7, 50);
        Check.due("of one YEAR, more", x.cannot(0, 1), 1);
        Check.due("of one YEAR, less", x.cannot(1, 0), 1);
        Check.due("of one YEAR, alike", x.cannot(0, 2), 0);
    }

    private static void wrongPairs() {
        HandCensus x = new HandCensus();
        Check.due("cannot(0, 1) of none", x.cannot(0, 1), -2);
        x.census(1, 1);
        x.census(2, 2);
        int[][] wrong = {{0, 0}, {1, 1}, {0, 2}, {2, 0}, {-1, 0}, {0, -1}, {7, 8}, {Integer.MIN_VALUE, 0}, {0, Integer.MAX_VALUE}};
        for (int[] w : wrong) {
            Check.due("cannot(" + w[0] + ", " + w[1] + ")", x.cannot(w[0], w[1]), -2);
        }
    }

    private static void leaves(HandCensus x, String name, int pairs, int fewest, int bits) {
        Check.due(name + ": leave(0)", x.leave(0), pairs);
        Check.due(name + ": leave(1)", x.leave(1), fewest);
        Check.due(name + ": leave(2)", x.leave(2), bits);
    }

    private static void leaving() {
        HandCensus x = new HandCensus();
        leaves(x, "none", 0, 0, 0);
        x.census(10, 100);
        leaves(x, "one", 0, 0, 0);
        x.census(20, 90);
        leaves(x, "fewer", 0, 0, 0);
        // more than both ahead: that one alone is left out
        x.census(30, 200);
        leaves(x, "one too many", 2, 1, 4);
        x.births(10, 110);
        leaves(x, "births for the first", 1, 1, 2);
        x.births(20, 110);
        leaves(x, "births for both", 0, 0, 0);
    }

    private static void leastAsBits() {
        HandCensus x = new HandCensus();
        x.census(10, 100);
        x.census(20, 200);
        leaves(x, "either", 1, 1, 1);
        // two apart: 0 with 1, 2 with 3 (of one YEAR each, with births between)
        HandCensus y = new HandCensus();
        y.births(10, 999);
        y.census(10, 5);
        y.census(11, 9);
        y.census(11, 8);
        y.census(10, 6);
        leaves(y, "two and two", 2, 2, 3);
        // all eight cannot be beside one another: seven are left out
        HandCensus z = new HandCensus();
        for (int i = 0; i < 8; i++) {
            z.census(10 * i, 10 * i);
        }
        leaves(z, "eight", 28, 7, 127);
        // a star: the last has less than all in one YEAR's time, so it alone
        HandCensus star = new HandCensus();
        star.census(50, 7);
        for (int i = 0; i < 6; i++) {
            star.census(60 + i, 20 - i);
        }
        leaves(star, "star", 6, 1, 1);
        // the fewest go ahead of the least as bits: 64 alone, not 1 and 2
        HandCensus late = new HandCensus();
        for (int i = 0; i < 6; i++) {
            late.census(60 + i, 20 - i);
        }
        late.census(50, 7);
        leaves(late, "late", 6, 1, 64);
    }

    private static void wrongNumbers() {
        HandCensus x = new HandCensus();
        for (int what : new int[] {-1, 3, Integer.MIN_VALUE, Integer.MAX_VALUE}) {
            Check.due("leave(" + what + ")", x.leave(what), -2);
        }
    }
}
