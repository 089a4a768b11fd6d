/** Promises 1 to 6: a new object, type, wipe, fault, person, set. */
public final class RowTest {
    private static final String TWENTY = "p1p1p1p1p1p1p1p1p1p1p1p1p1p1p1p1p1p1p1p1";

    public static void main(String[] args) {
        newObject();
        typing();
        wiping();
        faults();
        faultIsAsEmpty();
        persons();
        wrongPersons();
        longerRows();
        settings();
        Check.end();
    }

    private static void newObject() {
        HandCensus x = new HandCensus();
        for (int what = 0; what <= 8; what++) {
            Check.due("new: count(" + what + ")", x.count(what), 0);
        }
        Check.due("new: fault()", x.fault(), -1);
        Check.due("new: person(0, 0)", x.person(0, 0), -2);
        Check.due("new: set(0, 0)", x.set(0, 0), 0);
        Check.due("new: set(1, -1)", x.set(1, -1), -1);
        Check.due("new: set(2, 0)", x.set(2, 0), 0);
        Check.due("new: limits(1, 9, 0)", x.limits(1, 9, 0), 190);
        Check.due("new: births(99, 0)", x.births(99, 0), 0);
        for (int s = 0; s <= 3; s++) {
            Check.due("new: lose(" + s + ")", x.lose(s), -11);
        }
        Check.due("new: wipe()", x.wipe(), 0);
    }

    private static void typing() {
        HandCensus x = new HandCensus();
        Check.due("type(-1)", x.type(-1), -2);
        Check.due("type(256)", x.type(256), -2);
        Check.due("type(least)", x.type(Integer.MIN_VALUE), -2);
        Check.due("count(1) behind BAD", x.count(1), 0);
        Check.due("type(0)", x.type(0), 1);
        Check.due("type(255)", x.type(255), 2);
        for (int n = 3; n <= 60; n++) {
            Check.due("type to " + n, x.type('p'), n);
        }
        Check.due("type the 61st", x.type('p'), -4);
        Check.due("type(256) in a full row", x.type(256), -2);
        Check.due("count(1) of a full row", x.count(1), 60);
    }

    private static void wiping() {
        HandCensus x = Check.row("p1p");
        x.set(0, 7);
        Check.due("wipe() of 3", x.wipe(), 3);
        Check.due("fault() behind wipe()", x.fault(), -1);
        Check.due("count(0) behind wipe()", x.count(0), 0);
        Check.due("count(1) behind wipe()", x.count(1), 0);
        Check.due("wipe() again", x.wipe(), 0);
        Check.due("type() behind wipe()", x.type('t'), 1);
        x.type('4');
        Check.due("person(0, 0) behind wipe()", x.person(0, 0), 1);
        Check.due("FIRST stays", x.set(0, 0), 7);
    }

    private static void fault(String text, int want) {
        Check.due("fault() of " + text, Check.row(text).fault(), want);
    }

    private static void faults() {
        String[] well = {"", "p1", "p9", "sp1", "st2sc3sd4", "p1(p1)", "p1(p1)p1", "p1(p1p1o", "p1(p1p1op1",
            "p1(p1)(p1)p1", "p1(p1p1o(p1)", "p1(p1)(p1p1o", "p1(p1(p1(p1)))", "p1(p1(p1)p1o",
            "p1(p1(p1p1o)", TWENTY, TWENTY.substring(0, 38) + "(p1)"};
        for (String text : well) {
            fault(text, -1);
        }
        String[] atTheEnd = {"s", "sp", "p", "p1s", "p1sp", "p1(", "p1(p1", "p1(p1p1", "p1(p1)(", "p1(p1(p1)", TWENTY + "("};
        for (String text : atTheEnd) {
            fault(text, text.length());
        }
        String[] atTheLast = {"x", "(", ")", "o", "1", "P", "ss", "so", "s1", "p0", "p:", "p/", "pp", "ps", "p11", "p1)", "p1o",
            "p1 ", "p1()", "p1(o", "p1((", "p1(p1o", "p1(p1(p1)o", "p1(p1))", "p1(p1p1oo", "p1(p1p1o)", "p1(p1)o",
            "p1(p1(p1(p1(", "p1(p1(p1p1oo", TWENTY + "s", TWENTY + "p", TWENTY + "x", TWENTY + ")", TWENTY + "(p",
            TWENTY + "(s", TWENTY.substring(0, 38) + "(p1)p"};
        for (String text : atTheLast) {
            fault(text, text.length() - 1);
            fault(text + "p1", text.length() - 1);
        }
        fault("" + (char) 0, 0);
        fault("p1" + (char) 255, 2);
    }

    private static void faultIsAsEmpty() {
        HandCensus x = Check.row("p1p1sp1p");
        Check.due("count(0) with a fault", x.count(0), 0);
        Check.due("count(1) with a fault", x.count(1), 8);
        Check.due("count(2) with a fault", x.count(2), 0);
        Check.due("count(3) with a fault", x.count(3), 0);
        Check.due("person(0, 0) with a fault", x.person(0, 0), -2);
        Check.due("reached() with a fault", x.reached(), 0);
        x.type('3');
        Check.due("count(0) when it goes on", x.count(0), 4);
        Check.due("reached() when it goes on", x.reached(), 15);
    }

    private static void tells(HandCensus x, int p, int... want) {
        for (int what = 0; what <= 4; what++) {
            Check.due("person(" + p + ", " + what + ")", x.person(p, what), want[what]);
        }
    }

    private static void persons() {
        HandCensus x = Check.row("sp3t1(c9d2o(sp5)p4");
        tells(x, 0, 0, 3, 1, 2, 1);
        tells(x, 1, 1, 1, 0, 61, 1);
        tells(x, 2, 2, 9, 0, 10, 0);
        tells(x, 3, 3, 2, 0, 6, 0);
        tells(x, 4, 0, 5, 1, 2, 0);
        tells(x, 5, 0, 4, 0, 2, 1);
        Check.due("count(2)", x.count(2), 3);
        Check.due("count(3)", x.count(3), 6);
    }

    private static void wrongPersons() {
        HandCensus x = Check.row("p1p1");
        int[][] wrong = {{-1, 0}, {2, 0}, {19, 0}, {0, -1}, {0, 5}, {2, 5}, {Integer.MIN_VALUE, 3}, {Integer.MAX_VALUE, 3},
            {0, Integer.MAX_VALUE}, {0, Integer.MIN_VALUE}};
        for (int[] w : wrong) {
            Check.due("person(" + w[0] + ", " + w[1] + ")", x.person(w[0], w[1]), -2);
        }
    }

    private static void longerRows() {
        HandCensus deep = Check.row("p1(p2(p3(p4p5o)p6)p7");
        int[] hands = {1 << 1 | 1 << 6, 1 << 0 | 1 << 2 | 1 << 5, 0, 1 << 2 | 1 << 4, 1 << 3 | 1 << 2, 1 << 1, 1 << 0};
        // 1 has a fork with 2 in it; 2 has a ring of 3 and 4; behind the fork of 1 comes 5; then 0 goes on with 6
        hands[2] = 1 << 1 | 1 << 3 | 1 << 4;
        for (int p = 0; p < hands.length; p++) {
            Check.due("deep: person(" + p + ", 3)", deep.person(p, 3), hands[p]);
            Check.due("deep: person(" + p + ", 1)", deep.person(p, 1), p + 1);
            Check.due("deep: person(" + p + ", 4)", deep.person(p, 4), p == 0 || p == 6 ? 1 : 0);
        }
        HandCensus full = Check.row("sp1sp1sp1sp1sp1sp1sp1sp1sp1sp1sp1sp1sp1sp1sp1sp1sp1sp1sp1sp9");
        Check.due("sixty bytes: fault()", full.fault(), -1);
        Check.due("sixty bytes: count(0)", full.count(0), 20);
        Check.due("sixty bytes: count(1)", full.count(1), 60);
        Check.due("sixty bytes: person(19, 1)", full.person(19, 1), 9);
        Check.due("sixty bytes: person(19, 3)", full.person(19, 3), 1 << 18);
        Check.due("sixty bytes: count(3)", full.count(3), 19);
    }

    private static void settings() {
        HandCensus x = Check.row("p1p1p1");
        Check.due("set(0, 19)", x.set(0, 19), 0);
        Check.due("set(0, 2)", x.set(0, 2), 19);
        Check.due("set(1, 19)", x.set(1, 19), -1);
        Check.due("set(1, -1)", x.set(1, -1), 19);
        Check.due("set(2, 99)", x.set(2, 99), 0);
        Check.due("set(2, 1)", x.set(2, 1), 99);
        int[][] wrong = {{0, 20}, {0, -1}, {1, -2}, {1, 20}, {2, -1}, {2, 100}, {3, 0}, {-1, 0}, {Integer.MAX_VALUE, 0},
            {0, Integer.MIN_VALUE}};
        for (int[] w : wrong) {
            Check.due("set(" + w[0] + ", " + w[1] + ")", x.set(w[0], w[1]), -5);
        }
        Check.due("FIRST is unchanged", x.set(0, 0), 2);
        Check.due("SECOND is unchanged", x.set(1, 0), -1);
        Check.due("WHEN is unchanged", x.set(2, 0), 1);
    }
}
