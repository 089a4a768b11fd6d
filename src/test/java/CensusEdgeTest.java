/** The boundary cases that the document names of CENSUSES (part 4, and promises 26 to 29), a sentence at a time. */
public final class CensusEdgeTest {
    private static final int LEAST = Integer.MIN_VALUE;
    private static final int GREATEST = Integer.MAX_VALUE;

    public static void main(String[] args) {
        eightAtMost();
        years();
        howMany();
        censusRefuses();
        birthsOfYears();
        birthsRefuse();
        moreThanBoth();
        fromTheEarlierOne();
        allYears();
        ofOneYear();
        cannotRefuses();
        pairs();
        fewestToLeave();
        leastAsBits();
        leaveRefuses();
        Check.end();
    }

    private static HandCensus with(int... yearsAndMany) {
        HandCensus x = new HandCensus();
        for (int i = 0; i + 1 < yearsAndMany.length; i += 2) {
            x.census(yearsAndMany[i], yearsAndMany[i + 1]);
        }
        return x;
    }

    private static void eightAtMost() {
        Check.of("CENSUSES, 8 at most");
        HandCensus x = new HandCensus();
        for (int n = 0; n < 8; n++) {
            Check.due("number " + n, x.census(n, n), n);
        }
        Check.due("the ninth", x.census(9, 9), -4);
        Check.due("count(5)", x.count(5), 8);
        Check.due("the eighth is there", x.cannot(6, 7), 1);
        Check.due("the ninth is not", x.cannot(7, 8), -2);
    }

    private static void years() {
        Check.of("a YEAR (0 to 99)");
        HandCensus x = new HandCensus();
        for (int year : new int[] {-1, 100, LEAST, GREATEST}) {
            Check.due("census(" + year + ", 0)", x.census(year, 0), -2);
        }
        Check.due("census(0, 0)", x.census(0, 0), 0);
        Check.due("census(99, 1)", x.census(99, 1), 1);
        Check.due("cannot(0, 1)", x.cannot(0, 1), 1);
    }

    private static void howMany() {
        Check.of("how many (0 to 9999)");
        HandCensus x = new HandCensus();
        for (int many : new int[] {-1, 10000, LEAST, GREATEST}) {
            Check.due("census(0, " + many + ")", x.census(0, many), -2);
        }
        Check.due("census(0, 0)", x.census(0, 0), 0);
        Check.due("census(11, 9999)", x.census(11, 9999), 1);
        for (int year = 0; year < 10; year++) {
            x.births(year, 999);
        }
        Check.due("9990 births", x.cannot(0, 1), 1);
        x.births(10, 9);
        Check.due("9999 births", x.cannot(0, 1), 0);
    }

    private static void censusRefuses() {
        Check.of("26 census: its number. BAD; FULL");
        HandCensus x = with(1, 1, 1, 1, 1, 1, 1, 1, 1, 1, 1, 1, 1, 1);
        Check.due("BAD", x.census(100, 1), -2);
        Check.due("BAD", x.census(1, 10000), -2);
        Check.due("its number", x.census(1, 1), 7);
        Check.due("FULL", x.census(1, 1), -4);
        Check.due("BAD ahead of FULL, YEAR", x.census(-1, 1), -2);
        Check.due("BAD ahead of FULL, how many", x.census(1, -1), -2);
        Check.due("count(5)", x.count(5), 8);
        Check.due("leave(0)", x.leave(0), 0);
    }

    private static void birthsOfYears() {
        Check.of("BIRTHS of YEARS (0 to 999 each; 0 at first)");
        HandCensus x = new HandCensus();
        for (int year = 0; year <= 99; year++) {
            Check.due("births(" + year + ", 999)", x.births(year, 999), 0);
        }
        Check.due("count(6)", x.count(6), 99900);
        for (int year = 0; year <= 99; year++) {
            Check.due("births(" + year + ", 0)", x.births(year, 0), 999);
        }
        Check.due("count(6) of none", x.count(6), 0);
    }

    private static void birthsRefuse() {
        Check.of("27 births: what they were. BAD");
        HandCensus x = new HandCensus();
        x.births(0, 3);
        x.births(99, 4);
        int[][] wrong = {{-1, 0}, {100, 0}, {LEAST, 0}, {GREATEST, 0}, {0, -1}, {0, 1000}, {99, LEAST}, {99, GREATEST}};
        for (int[] w : wrong) {
            Check.due("births(" + w[0] + ", " + w[1] + ")", x.births(w[0], w[1]), -2);
        }
        Check.due("count(6)", x.count(6), 7);
        Check.due("births(0, 0)", x.births(0, 0), 3);
        Check.due("births(99, 0)", x.births(99, 0), 4);
    }

    private static void moreThanBoth() {
        Check.of("Two CANNOT both be, if the later one has more than the earlier one and all BIRTHS");
        HandCensus x = with(10, 50, 20, 50, 20, 51, 20, 49, 20, 57, 20, 58);
        Check.due("as many", x.cannot(0, 1), 0);
        Check.due("one more", x.cannot(0, 2), 1);
        Check.due("one less", x.cannot(0, 3), 0);
        x.births(15, 7);
        Check.due("as many as with births", x.cannot(0, 4), 0);
        Check.due("one more than with births", x.cannot(0, 5), 1);
        Check.due("the other way round", x.cannot(5, 0), 1);
        Check.due("the other way round, as many", x.cannot(4, 0), 0);
        // the later one comes by YEARS, not by its number
        HandCensus y = with(20, 50, 10, 51);
        Check.due("more in the earlier one", y.cannot(0, 1), 0);
        Check.due("more in the earlier one, the other way round", y.cannot(1, 0), 0);
    }

    private static void fromTheEarlierOne() {
        Check.of("of YEARS from that of the earlier one up to the one ahead of the later's");
        for (int year = 40; year <= 45; year++) {
            HandCensus x = with(41, 0, 44, 1);
            x.births(year, 1);
            Check.due("a birth of " + year, x.cannot(0, 1), year >= 41 && year <= 43 ? 0 : 1);
        }
        for (int year = 97; year <= 99; year++) {
            HandCensus x = with(98, 0, 99, 1);
            x.births(year, 1);
            Check.due("the last YEARS, a birth of " + year, x.cannot(0, 1), year == 98 ? 0 : 1);
        }
        HandCensus first = with(0, 0, 1, 1);
        first.births(0, 1);
        Check.due("the first YEARS, a birth of 0", first.cannot(0, 1), 0);
        first.births(0, 0);
        first.births(1, 1);
        Check.due("the first YEARS, a birth of 1", first.cannot(0, 1), 1);
    }

    private static void allYears() {
        Check.of("all BIRTHS of YEARS from 0 up to 98");
        HandCensus x = with(0, 10, 99, 120, 99, 110, 99, 109);
        x.births(0, 1);
        for (int year = 1; year <= 98; year++) {
            x.births(year, 1);
        }
        x.births(99, 999);
        Check.due("120 of 109", x.cannot(0, 1), 1);
        Check.due("110 of 109", x.cannot(0, 2), 1);
        Check.due("109 of 109", x.cannot(0, 3), 0);
    }

    private static void ofOneYear() {
        Check.of("(by YEARS; of one YEAR: either)");
        for (int year : new int[] {0, 50, 99}) {
            HandCensus x = with(year, 5, year, 6, year, 5);
            x.births(year, 999);
            Check.due("less and more", x.cannot(0, 1), 1);
            Check.due("more and less", x.cannot(1, 0), 1);
            Check.due("more and less, by numbers", x.cannot(1, 2), 1);
            Check.due("alike", x.cannot(0, 2), 0);
        }
    }

    private static void cannotRefuses() {
        Check.of("28 cannot: BAD: also one with itself");
        HandCensus none = new HandCensus();
        Check.due("cannot(0, 0) of none", none.cannot(0, 0), -2);
        Check.due("cannot(0, 1) of none", none.cannot(0, 1), -2);
        HandCensus x = with(1, 1, 2, 2, 3, 3);
        for (int a = 0; a <= 2; a++) {
            Check.due("cannot(" + a + ", " + a + ")", x.cannot(a, a), -2);
            for (int b : new int[] {-1, 3, 7, 8, LEAST, GREATEST}) {
                Check.due("cannot(" + a + ", " + b + ")", x.cannot(a, b), -2);
                Check.due("cannot(" + b + ", " + a + ")", x.cannot(b, a), -2);
            }
        }
        Check.due("cannot(0, 2)", x.cannot(0, 2), 1);
    }

    private static void leaves(HandCensus x, String name, int pairs, int fewest, int bits) {
        Check.due(name + ": leave(0)", x.leave(0), pairs);
        Check.due(name + ": leave(1)", x.leave(1), fewest);
        Check.due(name + ": leave(2)", x.leave(2), bits);
    }

    private static void pairs() {
        Check.of("29 leave: PAIRS (what = 0) that CANNOT: none to all 28");
        leaves(new HandCensus(), "no CENSUS", 0, 0, 0);
        leaves(with(5, 5), "one", 0, 0, 0);
        leaves(with(5, 5, 5, 5), "two alike", 0, 0, 0);
        leaves(with(5, 5, 6, 6), "two unlike", 1, 1, 1);
        leaves(with(0, 1, 1, 2, 2, 3, 3, 4, 4, 5, 5, 6, 6, 7, 7, 8), "eight", 28, 7, 127);
        leaves(with(0, 8, 1, 7, 2, 6, 3, 5, 4, 4, 5, 3, 6, 2, 7, 1), "eight, ever fewer", 0, 0, 0);
        leaves(with(9, 1, 9, 2, 9, 3, 9, 4, 9, 5, 9, 6, 9, 7, 9, 8), "eight of one YEAR", 28, 7, 127);
    }

    private static void fewestToLeave() {
        Check.of("29 leave: the fewest CENSUSES to LEAVE out that none CANNOT (1)");
        // the last one is more than all ahead, which may be beside one another
        leaves(with(0, 7, 1, 6, 2, 5, 3, 4, 4, 3, 5, 2, 6, 1, 7, 9), "the eighth alone", 7, 1, 128);
        // the first one is less than all that follow
        leaves(with(0, 0, 1, 7, 2, 6, 3, 5, 4, 4, 5, 3, 6, 2, 7, 1), "the first alone", 7, 1, 1);
        // four pairs of one YEAR each, with fewer from one YEAR to the next
        leaves(with(0, 90, 0, 91, 1, 80, 1, 81, 2, 70, 2, 71, 3, 60, 3, 61), "four pairs", 4, 4, 0b01010101);
    }

    private static void leastAsBits() {
        Check.of("29 leave: of like ones the least as bits (2)");
        leaves(with(1, 1, 2, 2), "the first of two", 1, 1, 1);
        leaves(with(2, 2, 1, 1), "the first of two by number", 1, 1, 1);
        // 2 with 0 and 1: 2 alone is fewest, though 4 is not the least as bits
        leaves(with(5, 5, 6, 5, 7, 6), "one by both", 2, 1, 4);
        // 0 with 3, 1 with 2: 1 or 8, and 2 or 4
        leaves(with(0, 90, 1, 80, 1, 81, 0, 91), "crosswise", 2, 2, 3);
        // a chain: 0 with 1, 1 with 2, 2 with 3, so 1 and 2 (6), 0 and 2 (5), 1 and 3 (10)
        leaves(with(1, 4, 0, 2, 3, 3, 2, 1), "a chain", 3, 2, 5);
        HandCensus pair = with(10, 10, 20, 11, 20, 12);
        pair.births(15, 1);
        leaves(pair, "the last by both", 2, 1, 4);
    }

    private static void leaveRefuses() {
        Check.of("29 leave: BAD");
        for (int what : new int[] {-1, 3, LEAST, GREATEST}) {
            Check.due("leave(" + what + ")", with(1, 1, 2, 2).leave(what), -2);
            Check.due("leave(" + what + ") of none", new HandCensus().leave(what), -2);
        }
    }
}
