/** The boundary cases that the document names of squeezes (Terms, part 2, and promises 7 to 16), a sentence at a time. */
public final class SqueezeEdgeTest {
    private static final String TWENTY = "p1".repeat(20);
    private static final int LEAST = Integer.MIN_VALUE;
    private static final int GREATEST = Integer.MAX_VALUE;
    private static final int[] NOBODIES = {-1, 2, 19, 20, LEAST, GREATEST};
    private static final int[] NO_TIMES = {-1, 401, LEAST, GREATEST};

    public static void main(String[] args) {
        beginsWithFirst();
        ifSecondIsOneOfThem();
        whenFromZeroToNinetyNine();
        feltUpTo400();
        lostUpTo400();
        scarvesUpTo400();
        busyPlain();
        busyTwin();
        whoCounts();
        whoCountsTheThird();
        whoSleeps();
        allHandsButOne();
        threeLaterWithAScarf();
        notOverTheHandOfARing();
        fromNobodyComesFirst();
        thenByNumbers();
        felt();
        many();
        lost();
        from();
        reached();
        last();
        twice();
        round();
        begin();
        beginOfLikeOnes();
        passed();
        Check.end();
    }

    private static HandCensus with(String text, int first, int second, int when) {
        HandCensus x = Check.row(text);
        x.set(0, first);
        x.set(1, second);
        x.set(2, when);
        return x;
    }

    private static void feels(HandCensus x, int p, int... times) {
        for (int k = 0; k < times.length; k++) {
            Check.due("felt(" + p + ", " + k + ")", x.felt(p, k), times[k]);
        }
        Check.due("felt(" + p + ", " + times.length + ")", x.felt(p, times.length), -1);
        Check.due("many(" + p + ", 400)", x.many(p, 400), times.length);
    }

    private static void beginsWithFirst() {
        Check.of("A SQUEEZE begins with FIRST (one of the PEOPLE; 0 at first) at 0");
        HandCensus x = Check.row("p2p2p2");
        Check.due("0 at first", x.felt(0, 0), 0);
        Check.due("from nobody", x.from(0, 0), -1);
        x.set(0, 2);
        Check.due("the last one", x.felt(2, 0), 0);
        Check.due("0 then", x.felt(0, 0), 4);
        x.set(0, 3);
        Check.due("not one of them", x.reached(), 0);
        Check.due("not one of them: passed(400)", x.passed(400), 0);
        Check.type(x, "p2");
        Check.due("one of them when one more comes", x.felt(3, 0), 0);
        Check.due("reached() then", x.reached(), 15);
        HandCensus twenty = with(TWENTY, 19, -1, 0);
        Check.due("the twentieth", twenty.felt(0, 0), 19);
    }

    private static void ifSecondIsOneOfThem() {
        Check.of("if SECOND is one of them (NONE at first; else 0 to 19), another one with that one");
        HandCensus x = Check.row("p2p2p2");
        Check.due("NONE at first", x.passed(400), 3);
        x.set(1, 3);
        Check.due("not one of them", x.passed(400), 3);
        x.set(1, 19);
        Check.due("far from one of them", x.passed(400), 3);
        x.set(1, 2);
        // 2 at 0; both come to 1 at 2, where 0's is felt; it comes to 2 at 4
        Check.due("the last one", x.passed(400), 4);
        feels(x, 2, 0, 4);
        x.set(1, 0);
        Check.due("FIRST itself", x.lost(0, 0), 1);
        x.set(1, -1);
        Check.due("NONE again", x.passed(400), 3);
        x.set(1, 3);
        x.set(2, 1);
        Check.type(x, "p2");
        Check.due("one of them when one more comes", x.felt(3, 0), 1);
    }

    private static void whenFromZeroToNinetyNine() {
        Check.of("at WHEN (0 to 99; 0)");
        HandCensus x = Check.row("d1d1");
        x.set(1, 1);
        feels(x, 1, 0);
        x.set(2, 1);
        feels(x, 1, 1);
        x.set(2, 99);
        feels(x, 1, 99);
        Check.due("none up to 98", x.many(1, 98), 0);
        Check.due("one up to 99", x.many(1, 99), 1);
        Check.due("SECOND without a FIRST that is there", with("d1d1", 2, 1, 99).felt(1, 0), 99);
    }

    private static void feltUpTo400() {
        Check.of("TIMES are 0 to 400: what is felt");
        // both ways meet at 7 and at 0, where one is lost; the other goes round each 10
        HandCensus x = Check.row("p4(p3p3o");
        Check.due("felt(0, 40)", x.felt(0, 40), 400);
        Check.due("felt(0, 41)", x.felt(0, 41), -1);
        Check.due("many(0, 399)", x.many(0, 399), 40);
        Check.due("many(0, 400)", x.many(0, 400), 41);
        Check.due("from(0, 40)", x.from(0, 40), 1);
        Check.due("passed(400) less passed(399)", x.passed(400) - x.passed(399), 1);
        // the same a time later: 401 is none
        HandCensus y = Check.row("p1p4(p3p3o");
        Check.due("felt(1, 39)", y.felt(1, 39), 391);
        Check.due("felt(1, 40)", y.felt(1, 40), -1);
        Check.due("many(1, 400)", y.many(1, 400), 40);
        Check.due("passed(400) less passed(399), none at 400", y.passed(400) - y.passed(399), 0);
    }

    private static void lostUpTo400() {
        Check.of("TIMES are 0 to 400: what is lost");
        // of what comes back to 0 at 10 three are lost, then two each 10
        HandCensus x = Check.row("p4(p3p3o(p3p3o");
        Check.due("lost(0, 9)", x.lost(0, 9), 0);
        Check.due("lost(0, 10)", x.lost(0, 10), 3);
        Check.due("lost(0, 399)", x.lost(0, 399), 79);
        Check.due("lost(0, 400)", x.lost(0, 400), 81);
        Check.due("count(7)", x.count(7), 81);
        HandCensus y = Check.row("p1p4(p3p3o(p3p3o");
        Check.due("lost(1, 400)", y.lost(1, 400), 79);
        Check.due("count(7), a time later", y.count(7), 79);
    }

    private static void scarvesUpTo400() {
        Check.of("TIMES are 0 to 400: what is passed ahead of 400 and felt behind it by a SCARF");
        HandCensus x = Check.row("p7(p1p2osp1");
        Check.due("passed at 397: felt(3, 39)", x.felt(3, 39), 400);
        Check.due("passed at 397: many(3, 400)", x.many(3, 400), 40);
        HandCensus y = Check.row("p8(p1p1osp1");
        Check.due("passed at 398: felt(3, 38)", y.felt(3, 38), 391);
        Check.due("passed at 398: felt(3, 39)", y.felt(3, 39), -1);
        Check.due("passed at 398: many(3, 400)", y.many(3, 400), 39);
    }

    private static void busyUpTo(String text, int free) {
        for (int when = 0; when <= free + 1; when++) {
            HandCensus x = with(text, 0, 0, when);
            Check.due(text + ", again at " + when + ": many(0, 400)", x.many(0, 400), when < free ? 1 : 2);
            Check.due(text + ", again at " + when + ": lost(0, 400)", x.lost(0, 400), when < free ? 1 : 0);
        }
    }

    private static void busyPlain() {
        Check.of("BUSY up to the TIME at which one has passed it, that one left out: a plain one at t and LATE");
        for (int late = 1; late <= 9; late++) {
            busyUpTo("p" + late, late);
            busyUpTo("p" + late + "p1", late);
        }
        feels(with("p9p1", 0, 0, 9), 1, 9, 18);
    }

    private static void busyTwin() {
        Check.of("(a twin: for the second time): a twin passes it at t and LATE, and again at t and 2 LATE");
        for (int late = 1; late <= 9; late++) {
            busyUpTo("t" + late, 2 * late);
            feels(Check.row("t" + late + "d1"), 1, late, 2 * late);
        }
        feels(with("t4d1", 0, 0, 8), 1, 4, 8, 12, 16);
    }

    private static void whoCounts() {
        Check.of("who counts passes just each second one that was FELT, else one is not BUSY");
        for (int late = 1; late <= 9; late++) {
            feels(Check.row("c" + late + "d1"), 1);
            for (int when = 0; when <= late; when++) {
                HandCensus x = with("c" + late + "d1", 0, 0, when);
                feels(x, 0, 0, when);
                feels(x, 1, when + late);
                Check.due("lost(0, 400)", x.lost(0, 400), 0);
            }
        }
    }

    private static void whoCountsTheThird() {
        Check.of("who counts: BUSY with the second as a plain one; of the third not BUSY again");
        // 1 feels 0's at 1 and 2, and is busy with the second up to 11
        for (int when = 3; when <= 10; when++) {
            HandCensus x = with("t1c9d1", 0, 1, when);
            feels(x, 1, 1, 2);
            Check.due("lost(1, 400)", x.lost(1, 400), 1);
            feels(x, 2, 11);
        }
        HandCensus x = with("t1c9d1", 0, 1, 11);
        feels(x, 1, 1, 2, 11);
        feels(x, 2, 11);
        Check.due("lost(1, 400)", x.lost(1, 400), 0);
        // what is LOST is not counted: nobody's and 0's at 1, then 0's at 2 is lost
        HandCensus y = with("t1c9d1", 0, 1, 1);
        feels(y, 1, 1, 1);
        Check.due("lost(1, 2)", y.lost(1, 2), 1);
        feels(y, 2, 10);
        // four of them: the second and the fourth are passed
        feels(Check.row("t1t2c1d1"), 2, 3, 5);
        feels(with("t9c1d1", 0, 0, 18), 1, 9, 18, 27, 36);
        feels(with("t9c1d1", 0, 0, 18), 2, 19, 37);
    }

    private static void whoSleeps() {
        Check.of("who sleeps passes nothing, and is not BUSY");
        for (int when = 0; when <= 9; when++) {
            HandCensus x = with("p1d9p1", 1, 1, when);
            feels(x, 1, 0, when);
            feels(x, 0);
            feels(x, 2);
            Check.due("lost(1, 400)", x.lost(1, 400), 0);
        }
        HandCensus all = Check.row("d1".repeat(20));
        Check.due("all sleep: reached()", all.reached(), 1);
        Check.due("all sleep: passed(400)", all.passed(400), 1);
    }

    private static void allHandsButOne() {
        Check.of("It is passed to all HANDS but the one from whom it came");
        HandCensus alone = Check.row("p1");
        feels(alone, 0, 0);
        HandCensus two = Check.row("p1p1");
        feels(two, 0, 0);
        feels(two, 1, 1);
        HandCensus middle = with("p1p1p1", 1, -1, 0);
        feels(middle, 0, 1);
        feels(middle, 1, 0);
        feels(middle, 2, 1);
        HandCensus star = with("p1" + "(p1)".repeat(14), 14, -1, 0);
        feels(star, 14, 0);
        feels(star, 0, 1);
        for (int p = 1; p < 14; p++) {
            feels(star, p, 2);
        }
    }

    private static void threeLaterWithAScarf() {
        Check.of("A squeeze takes 3 more from one to another, if the later one of both (by numbers) has a SCARF");
        feels(Check.row("sp1"), 0, 0);
        feels(Check.row("sp1p1"), 1, 1);
        feels(Check.row("p1sp1"), 1, 4);
        feels(Check.row("sp1sp1"), 1, 4);
        feels(with("p1sp1", 1, -1, 0), 0, 4);
        feels(with("sp1p1", 1, -1, 0), 0, 1);
        feels(Check.row("p1(sp1)p1"), 1, 4);
        feels(Check.row("p1(sp1)p1"), 2, 1);
        feels(Check.row("p1(p1)sp1"), 2, 4);
        feels(Check.row("t9sd1"), 1, 12, 21);
        Check.due("nineteen of them", Check.row("sp9".repeat(20)).last(), 228);
        Check.due("nineteen of them, back", with("sp9".repeat(20), 19, -1, 0).last(), 228);
        HandCensus three = Check.row("p1(sp1)(sp1)sp1");
        for (int p = 1; p <= 3; p++) {
            feels(three, p, 4);
        }
    }

    private static void notOverTheHandOfARing() {
        Check.of("not over the hand by which a ring is closed");
        HandCensus last = Check.row("p9(p9sp9o");
        Check.due("the last with a SCARF: felt(2, 0)", last.felt(2, 0), 9);
        Check.due("the last with a SCARF: felt(1, 0)", last.felt(1, 0), 9);
        Check.due("the last with a SCARF: felt(2, 1)", last.felt(2, 1), 21);
        HandCensus back = with("d9(p9sp9o", 2, -1, 0);
        Check.due("back over it: felt(0, 0)", back.felt(0, 0), 9);
        Check.due("back over it: from(0, 0)", back.from(0, 0), 2);
        Check.due("over the other hand: felt(1, 0)", back.felt(1, 0), 12);
        HandCensus first = Check.row("p1(sp1p1o");
        Check.due("the first with a SCARF: felt(1, 0)", first.felt(1, 0), 2);
        Check.due("the first with a SCARF: from(1, 0)", first.from(1, 0), 2);
        Check.due("the first with a SCARF: felt(1, 1)", first.felt(1, 1), 4);
        Check.due("the first with a SCARF: from(1, 1)", first.from(1, 1), 0);
    }

    private static void fromNobodyComesFirst() {
        Check.of("Of those felt by one at one TIME that from nobody comes first (FIRST's ahead of SECOND's)");
        HandCensus x = with("c1(p1)(p1)(p1)", 1, 0, 1);
        Check.due("from(0, 0)", x.from(0, 0), -1);
        Check.due("from(0, 1)", x.from(0, 1), 1);
        Check.due("felt(0, 1)", x.felt(0, 1), 1);
        HandCensus plain = with("p1p1p1", 0, 1, 1);
        Check.due("nobody's is felt", plain.from(1, 0), -1);
        Check.due("0's is lost", plain.lost(1, 1), 1);
        Check.due("nobody's goes to all: felt(0, 1)", plain.felt(0, 1), 2);
        HandCensus both = with("c1d1", 0, 0, 0);
        Check.due("FIRST's and SECOND's: felt(0, 1)", both.felt(0, 1), 0);
        Check.due("FIRST's and SECOND's: felt(1, 0)", both.felt(1, 0), 1);
        HandCensus late = with("p1p1", 1, 0, 1);
        Check.due("the least number stands behind nobody", late.from(0, 0), -1);
    }

    private static void thenByNumbers() {
        Check.of("then by numbers of those from whom they come");
        HandCensus x = with("c1(p1)(p1)(p1)", 3, 1, 0);
        Check.due("from(0, 0)", x.from(0, 0), 1);
        Check.due("from(0, 1)", x.from(0, 1), 3);
        HandCensus y = with("c1(p1)(p1)(p1)", 2, 3, 0);
        Check.due("from(0, 0), the others", y.from(0, 0), 2);
        Check.due("from(0, 1), the others", y.from(0, 1), 3);
        HandCensus zero = with("p1c1p1", 2, 0, 0);
        Check.due("0 ahead of 2", zero.from(1, 0), 0);
        Check.due("2 behind 0", zero.from(1, 1), 2);
        String last = "p1".repeat(18) + "c1p1";
        HandCensus twenty = with(last, 19, 17, 0);
        Check.due("17 ahead of 19", twenty.from(18, 0), 17);
        Check.due("19 behind 17", twenty.from(18, 1), 19);
    }

    private static void felt() {
        Check.of("7 felt: NONE: there is none. BAD: k below 0, too");
        HandCensus x = Check.row("p1p1");
        Check.due("felt(1, 0)", x.felt(1, 0), 1);
        Check.due("felt(1, 1)", x.felt(1, 1), -1);
        Check.due("felt(1, greatest)", x.felt(1, GREATEST), -1);
        Check.due("felt(1, -1)", x.felt(1, -1), -2);
        Check.due("felt(1, least)", x.felt(1, LEAST), -2);
        for (int p : NOBODIES) {
            Check.due("felt(" + p + ", 0)", x.felt(p, 0), -2);
            Check.due("felt(" + p + ", -1)", x.felt(p, -1), -2);
        }
        x.set(0, 2);
        Check.due("felt(0, 0) when nothing begins", x.felt(0, 0), -1);
        Check.due("felt(19, 0) of twenty", Check.row(TWENTY).felt(19, 0), 19);
        Check.due("felt(20, 0) of twenty", Check.row(TWENTY).felt(20, 0), -2);
        Check.due("felt(0, 0) of nobody", new HandCensus().felt(0, 0), -2);
    }

    private static void many() {
        Check.of("8 many: How many one FELT up to a TIME. BAD");
        HandCensus x = Check.row("p3p1");
        Check.due("many(0, 0)", x.many(0, 0), 1);
        Check.due("many(1, 0)", x.many(1, 0), 0);
        Check.due("many(1, 2)", x.many(1, 2), 0);
        Check.due("many(1, 3)", x.many(1, 3), 1);
        Check.due("many(1, 400)", x.many(1, 400), 1);
        for (int time : NO_TIMES) {
            Check.due("many(0, " + time + ")", x.many(0, time), -2);
        }
        for (int p : NOBODIES) {
            Check.due("many(" + p + ", 0)", x.many(p, 0), -2);
        }
        Check.due("many(0, 400) of nobody", new HandCensus().many(0, 400), -2);
    }

    private static void lost() {
        Check.of("9 lost: How many were LOST with one up to a TIME. BAD");
        HandCensus x = with("p9p1", 0, 0, 5);
        Check.due("lost(0, 0)", x.lost(0, 0), 0);
        Check.due("lost(0, 4)", x.lost(0, 4), 0);
        Check.due("lost(0, 5)", x.lost(0, 5), 1);
        Check.due("lost(0, 400)", x.lost(0, 400), 1);
        Check.due("lost(1, 400)", x.lost(1, 400), 0);
        x.set(2, 0);
        Check.due("lost(0, 0), both at 0", x.lost(0, 0), 1);
        for (int time : NO_TIMES) {
            Check.due("lost(0, " + time + ")", x.lost(0, time), -2);
        }
        for (int p : NOBODIES) {
            Check.due("lost(" + p + ", 0)", x.lost(p, 0), -2);
        }
        Check.due("lost(0, 400) of nobody", new HandCensus().lost(0, 400), -2);
    }

    private static void from() {
        Check.of("10 from: NONE: from nobody, or there is none. BAD: k below 0, too");
        HandCensus x = Check.row("p1p1");
        Check.due("from(0, 0): from nobody", x.from(0, 0), -1);
        Check.due("from(1, 0): from 0", x.from(1, 0), 0);
        Check.due("from(1, 1): there is none", x.from(1, 1), -1);
        Check.due("from(1, greatest)", x.from(1, GREATEST), -1);
        Check.due("from(1, -1)", x.from(1, -1), -2);
        Check.due("from(1, least)", x.from(1, LEAST), -2);
        for (int p : NOBODIES) {
            Check.due("from(" + p + ", 0)", x.from(p, 0), -2);
            Check.due("from(" + p + ", -1)", x.from(p, -1), -2);
        }
        Check.due("from(18, 0) of twenty", with(TWENTY, 19, -1, 0).from(18, 0), 19);
        Check.due("from(0, 0) of nobody", new HandCensus().from(0, 0), -2);
    }

    private static void reached() {
        Check.of("11 reached: REACHED, as bits");
        Check.due("nobody", new HandCensus().reached(), 0);
        Check.due("one", Check.row("p1").reached(), 1);
        Check.due("twenty", Check.row(TWENTY).reached(), 0xfffff);
        Check.due("up to one who sleeps", Check.row("p1".repeat(18) + "d1p1").reached(), 0x7ffff);
        Check.due("the twentieth alone", with("p1".repeat(19) + "d1", 19, -1, 0).reached(), 0x80000);
        Check.due("nothing begins", with("p1p1", 2, -1, 0).reached(), 0);
    }

    private static void last() {
        Check.of("12 last: LAST; NONE: nobody is REACHED");
        Check.due("nobody", new HandCensus().last(), -1);
        Check.due("nothing begins", with("p1p1", 2, -1, 0).last(), -1);
        Check.due("one", Check.row("p9").last(), 0);
        Check.due("one who sleeps ahead of others", Check.row("d1p1").last(), 0);
        Check.due("twenty", Check.row(TWENTY).last(), 19);
        Check.due("of the last one, FELT first", Check.row("p4(p3p3o").last(), 4);
        Check.due("SECOND's, at 99", with("d1d1", 0, 1, 99).last(), 99);
    }

    private static void twice() {
        Check.of("13 twice: TWICE: those that FELT more than one, as bits");
        Check.due("nobody", new HandCensus().twice(), 0);
        Check.due("one each", Check.row(TWENTY).twice(), 0);
        Check.due("LOST is not FELT", with("p1p1", 0, 0, 0).twice(), 0);
        Check.due("two at one TIME", with("d1p1", 0, 0, 0).twice(), 1);
        Check.due("the twentieth", Check.row("p1".repeat(18) + "t1d1").twice(), 0x80000);
        Check.due("more than two", Check.row("p1(p1p1o").twice(), 7);
    }

    private static void round() {
        Check.of("14 round: the TIME between the first two that one FELT; NONE. BAD");
        HandCensus x = Check.row("t9d1p1");
        Check.due("of two", x.round(1), 9);
        Check.due("of one", x.round(0), -1);
        Check.due("of none", x.round(2), -1);
        Check.due("of two at one TIME", with("d1", 0, 0, 0).round(0), 0);
        Check.due("of two 99 apart", with("d1", 0, 0, 99).round(0), 99);
        Check.due("of more than two", Check.row("p1(p1p1o").round(2), 1);
        HandCensus two = Check.row("p1p1");
        for (int p : NOBODIES) {
            Check.due("round(" + p + ")", two.round(p), -2);
        }
        Check.due("round(0) of nobody", new HandCensus().round(0), -2);
    }

    private static void begins(HandCensus x, String name, int who, int many, int latest) {
        Check.due(name + ": begin(0)", x.begin(0), who);
        Check.due(name + ": begin(1)", x.begin(1), many);
        Check.due(name + ": begin(2)", x.begin(2), latest);
    }

    private static void begin() {
        Check.of("15 begin: who (what = 0; NONE), how many are REACHED (1), LAST (2; NONE). BAD");
        HandCensus x = new HandCensus();
        begins(x, "nobody", -1, 0, -1);
        for (int what : new int[] {-1, 3, LEAST, GREATEST}) {
            Check.due("begin(" + what + ")", x.begin(what), -2);
            Check.due("begin(" + what + ") of two", Check.row("p1p1").begin(what), -2);
        }
        begins(Check.row("d1"), "one", 0, 1, 0);
        begins(with("p2p1", 19, -1, 0), "FIRST does not matter", 1, 2, 1);
        begins(with("p2p1", 0, 0, 99), "SECOND does not matter", 1, 2, 1);
        begins(Check.row("p1p1("), "a text that is not ended", -1, 0, -1);
        begins(Check.row("d1".repeat(19) + "p1"), "the twentieth", 19, 2, 1);
    }

    private static void beginOfLikeOnes() {
        Check.of("BEGIN: most are REACHED, of like ones with the least LAST, of like ones the least number");
        begins(Check.row("d1d1d1"), "all alike", 0, 1, 0);
        begins(Check.row(TWENTY), "twenty", 9, 20, 10);
        // 0 has one beside, quick; 3 has two, slow
        begins(Check.row("p1d1d1p9d1"), "most ahead of least LAST", 3, 3, 9);
        begins(Check.row("p3p2p1"), "least LAST", 1, 3, 2);
        begins(Check.row("p1p1"), "least number", 0, 2, 1);
    }

    private static void passed() {
        Check.of("16 passed: All that were FELT up to a TIME. BAD");
        HandCensus x = Check.row("p3p1");
        Check.due("passed(0)", x.passed(0), 1);
        Check.due("passed(2)", x.passed(2), 1);
        Check.due("passed(3)", x.passed(3), 2);
        Check.due("passed(400)", x.passed(400), 2);
        for (int time : NO_TIMES) {
            Check.due("passed(" + time + ")", x.passed(time), -2);
            Check.due("passed(" + time + ") of nobody", new HandCensus().passed(time), -2);
        }
        Check.due("LOST ones are not among them", with("p3p1", 0, 0, 0).passed(400), 2);
        Check.due("of nobody", new HandCensus().passed(400), 0);
    }
}
