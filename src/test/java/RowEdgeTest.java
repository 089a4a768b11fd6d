/** The boundary cases that the document names of the row (Terms, and promises 1 to 6), a sentence at a time. */
public final class RowEdgeTest {
    private static final String TWENTY = "p1".repeat(20);
    private static final int LEAST = Integer.MIN_VALUE;
    private static final int GREATEST = Integer.MAX_VALUE;

    public static void main(String[] args) {
        upToSixtyBytes();
        twentyAtMost();
        perhapsAScarf();
        lettersOfKinds();
        figures();
        holdsHandsWithTheOneAhead();
        forkBehindOneOfThePeople();
        forkBehindAnotherFork();
        endOfAFork();
        oneAtLeastInAFork();
        threeForksInOneAnother();
        ringInPlaceOfAnEnd();
        twoDirectlyInARing();
        lastDirectlyInARing();
        firstByteThatCannotGoOn();
        textThatIsNotEnded();
        anEmptyOneIsWell();
        firstByteOfATwentyFirst();
        withAFaultAsIfEmpty();
        mainSection();
        newObject();
        typing();
        wiping();
        faults();
        persons();
        settings();
        calls();
        Check.end();
    }

    private static void well(String text, int people) {
        HandCensus x = Check.row(text);
        Check.due("fault() of " + text, x.fault(), -1);
        Check.due("count(0) of " + text, x.count(0), people);
    }

    private static void stops(String text, int place) {
        HandCensus x = Check.row(text);
        Check.due("fault() of " + text, x.fault(), place);
        Check.due("count(0) of " + text, x.count(0), 0);
    }

    private static void hold(String text, int p, int... whom) {
        int bits = 0;
        for (int q : whom) {
            bits |= 1 << q;
        }
        Check.due("person(" + p + ", 3) of " + text, Check.row(text).person(p, 3), bits);
    }

    private static void upToSixtyBytes() {
        Check.of("THE ROW is a text of up to 60 bytes");
        String sixty = "sp1".repeat(20);
        HandCensus x = Check.row(sixty.substring(0, 59));
        Check.due("the 60th", x.type('7'), 60);
        Check.due("the 61st", x.type('7'), -4);
        Check.due("bytes", x.count(1), 60);
        Check.due("the 60th is the last one's figure", x.person(19, 1), 7);
        Check.due("fault()", x.fault(), -1);
    }

    private static void twentyAtMost() {
        Check.of("PEOPLE, 20 at most (0 on, as they come)");
        well("", 0);
        well("p1", 1);
        well(TWENTY.substring(2), 19);
        well(TWENTY, 20);
        stops(TWENTY + "p1", 40);
        HandCensus x = Check.row("p1p2p3p4p5p6p7p8p9p1p2p3p4p5p6p7p8p9p1p2");
        for (int p = 0; p < 20; p++) {
            Check.due("person(" + p + ", 1)", x.person(p, 1), p % 9 + 1);
        }
        Check.due("person(20, 1)", x.person(20, 1), -2);
    }

    private static void perhapsAScarf() {
        Check.of("perhaps s (SCARF)");
        HandCensus x = Check.row("sp1p1");
        Check.due("with", x.person(0, 2), 1);
        Check.due("without", x.person(1, 2), 0);
        stops("s", 1);
        stops("ssp1", 1);
        stops("sp1ss", 4);
        stops("ps1", 1);
        stops("p1s1", 3);
        stops("s(", 1);
        stops("p1(p1s)", 6);
        stops("p1(p1p1so", 8);
    }

    private static void lettersOfKinds() {
        Check.of("the letter of a KIND (p plain, t a twin, c who counts, d who sleeps)");
        for (int b = 0; b <= 255; b++) {
            HandCensus x = new HandCensus();
            x.type(b);
            boolean goesOn = b == 'p' || b == 't' || b == 'c' || b == 'd' || b == 's';
            Check.due("fault() of byte " + b, x.fault(), goesOn ? 1 : 0);
            HandCensus scarf = Check.row("p1s");
            scarf.type(b);
            Check.due("fault() of byte " + b + " behind a SCARF", scarf.fault(), goesOn && b != 's' ? 4 : 3);
        }
        HandCensus x = Check.row("p1t1c1d1");
        for (int kind = 0; kind <= 3; kind++) {
            Check.due("KIND of " + kind, x.person(kind, 0), kind);
        }
    }

    private static void figures() {
        Check.of("a figure (1 to 9: LATE)");
        for (int b = 0; b <= 255; b++) {
            HandCensus x = Check.row("p");
            x.type(b);
            boolean figure = b >= '1' && b <= '9';
            Check.due("fault() of byte " + b, x.fault(), figure ? -1 : 1);
            Check.due("person(0, 1) of byte " + b, x.person(0, 1), figure ? b - '0' : -2);
        }
        stops("p12", 2);
    }

    private static void holdsHandsWithTheOneAhead() {
        Check.of("Each holds hands with the one ahead in the text");
        hold("p1", 0);
        hold("p1p1", 0, 1);
        hold("p1p1", 1, 0);
        hold(TWENTY, 0, 1);
        hold(TWENTY, 18, 17, 19);
        hold(TWENTY, 19, 18);
        Check.due("pairs of one", Check.row("p1").count(3), 0);
        Check.due("pairs of twenty", Check.row(TWENTY).count(3), 19);
    }

    private static void forkBehindOneOfThePeople() {
        Check.of("( behind one of the PEOPLE: a fork; who comes behind it holds hands with that one");
        stops("(", 0);
        stops("(p1)", 0);
        stops("p1((p1))", 3);
        stops("p(", 1);
        HandCensus x = Check.row("p1p1(p1)");
        Check.due("HANDS of 1", x.person(1, 3), 0b101);
        Check.due("HANDS of 2", x.person(2, 3), 0b010);
        Check.due("HANDS of 0", x.person(0, 3), 0b010);
    }

    private static void forkBehindAnotherFork() {
        Check.of("(or behind another fork of that one)");
        String many = "p1" + "(p1)".repeat(14);
        well(many, 15);
        Check.due("HANDS of one with fourteen forks", Check.row(many).person(0, 3), 0x7ffe);
        hold("p1(p1p1o(p1)", 0, 1, 2, 3);
        hold("p1(p1p1o(p1)", 3, 0);
        hold("p1(p1(p1)(p1))", 1, 0, 2, 3);
        hold("p1(p1(p1)(p1))", 0, 1);
    }

    private static void endOfAFork() {
        Check.of(") ends it, and who comes then holds hands with that one, too");
        stops(")", 0);
        stops("p1)", 2);
        stops("p1(p1))", 6);
        hold("p1(p1)p1", 2, 0);
        hold("p1(p1)p1", 0, 1, 2);
        hold("p1(p1(p1)p1)p1", 3, 1);
        hold("p1(p1(p1)p1)p1", 4, 0);
        hold("p1(p1(p1(p1)))p1", 4, 0);
    }

    private static void oneAtLeastInAFork() {
        Check.of("(of one at least in it)");
        stops("p1()", 3);
        stops("p1(p1)()", 7);
        stops("p1(p1())", 6);
        well("p1(p1)", 2);
        well("p1(p1(p1))", 3);
    }

    private static void threeForksInOneAnother() {
        Check.of("three forks in one another at most");
        well("p1(p1(p1(p1)))", 4);
        stops("p1(p1(p1(p1(", 11);
        stops("p1(p1(p1(p1(p1))))", 11);
        well("p1(p1(p1(p1)(p1)))", 5);
        well("p1(p1(p1(p1)))(p1(p1(p1)))", 7);
        well("p1(p1(p1(p1p1o))", 5);
        well("p1(p1(p1(p1)p1(p1)))", 6);
        stops("p1(p1(p1(p1)p1(p1(", 17);
    }

    private static void ringInPlaceOfAnEnd() {
        Check.of("o in place of ): a ring");
        stops("o", 0);
        stops("p1o", 2);
        stops("p1p1p1o", 6);
        stops("p1(p1p1oo", 8);
        stops("p1(p1p1o)", 8);
        stops("p1(p1p1)o", 8);
        well("p1(p1p1op1", 4);
        hold("p1(p1p1op1", 0, 1, 2, 3);
        hold("p1(p1p1op1", 3, 0);
        Check.due("pairs of a ring of three", Check.row("p1(p1p1o").count(3), 3);
    }

    private static void twoDirectlyInARing() {
        Check.of("two of the PEOPLE of it, at least, that are directly in it");
        stops("p1(o", 3);
        stops("p1(p1o", 5);
        stops("p1(p1(p1p1)o", 11);
        stops("p1(p1(p1p1oo", 11);
        stops("p1(p1(p1)(p1)o", 13);
        well("p1(p1p1o", 3);
        well("p1(p1(p1)p1o", 4);
        well("p1" + "(p1" + "p1".repeat(18) + "o", 20);
    }

    private static void lastDirectlyInARing() {
        Check.of("the last one of the fork (directly in it) holds hands with that one as well");
        hold("p1(p1p1o", 0, 1, 2);
        hold("p1(p1p1(p1)o", 0, 1, 2);
        hold("p1(p1p1(p1)o", 3, 2);
        hold("p1(p1p1(p1p1oo", 0, 1, 2);
        hold("p1(p1p1(p1p1oo", 2, 0, 1, 3, 4);
        hold("p1(p1(p1p1op1o", 1, 0, 2, 3, 4);
        hold("p1(p1(p1p1op1o", 0, 1, 4);
        hold("p1p1(p1p1o", 0, 1);
    }

    private static void firstByteThatCannotGoOn() {
        Check.of("The FAULT is the place of the first byte with which it cannot go on");
        stops("x", 0);
        stops("xx", 0);
        stops("p1xp0", 2);
        stops("p0x", 1);
        HandCensus x = Check.row("p1x");
        for (int n = 4; n <= 60; n++) {
            x.type(n % 2 == 0 ? 'p' : '1');
        }
        Check.due("fault() of sixty bytes", x.fault(), 2);
        stops("sp1".repeat(19) + "sp0", 59);
    }

    private static void textThatIsNotEnded() {
        Check.of("(of a text that is not ended, its end)");
        String[] open = {"p", "s", "sp", "p1p", "p1(", "p1(p", "p1(p1", "p1(p1p1", "p1(p1(p1)", "p1(p1(p1p1o", "p1(p1)s"};
        for (String text : open) {
            stops(text, text.length());
        }
        stops("sp1".repeat(19) + "(sp", 60);
        stops("sp1".repeat(17) + "(sp1)sp1s", 60);
        stops("sp1".repeat(17) + "(sp1)p1sp", 60);
        stops("sp1".repeat(17) + "(sp1)p1(p", 60);
        stops("sp1".repeat(18) + "(p1(p1", 60);
        HandCensus x = Check.row("p1(p1");
        x.type(')');
        Check.due("fault() when it is ended", x.fault(), -1);
        Check.due("count(0) when it is ended", x.count(0), 2);
    }

    private static void anEmptyOneIsWell() {
        Check.of("an empty one is well: nobody");
        HandCensus x = new HandCensus();
        Check.due("fault()", x.fault(), -1);
        Check.due("count(0)", x.count(0), 0);
        Check.due("count(2)", x.count(2), 0);
        Check.due("person(0, 0)", x.person(0, 0), -2);
        x.type('p');
        x.wipe();
        Check.due("fault() when it is empty again", x.fault(), -1);
    }

    private static void firstByteOfATwentyFirst() {
        Check.of("or of the first byte of a twenty-first");
        stops(TWENTY + "p", 40);
        stops(TWENTY + "p1", 40);
        stops(TWENTY + "s", 40);
        stops(TWENTY + "sp1", 40);
        stops(TWENTY.substring(2) + "(p1)p1", 42);
        stops(TWENTY.substring(2) + "(p1p1)", 41);
        stops(TWENTY.substring(2) + "(p1sp1o", 41);
        stops(TWENTY + "(p1)", 41);
        well(TWENTY.substring(2) + "(p1)", 20);
        well(TWENTY.substring(4) + "(p1p1o", 20);
    }

    private static void withAFaultAsIfEmpty() {
        Check.of("With a FAULT it is as if it was empty");
        HandCensus x = Check.row("t3sp2(c1p4op1x");
        HandCensus empty = new HandCensus();
        for (int what : new int[] {0, 2, 3, 7}) {
            Check.due("count(" + what + ")", x.count(what), empty.count(what));
        }
        Check.due("count(1) tells its bytes", x.count(1), 14);
        for (int what = 0; what <= 4; what++) {
            Check.due("person(0, " + what + ")", x.person(0, what), -2);
        }
        Check.due("felt(0, 0)", x.felt(0, 0), -2);
        Check.due("many(0, 0)", x.many(0, 0), -2);
        Check.due("lost(0, 0)", x.lost(0, 0), -2);
        Check.due("from(0, 0)", x.from(0, 0), -2);
        Check.due("round(0)", x.round(0), -2);
        Check.due("reached()", x.reached(), 0);
        Check.due("last()", x.last(), -1);
        Check.due("twice()", x.twice(), 0);
        Check.due("begin(0)", x.begin(0), -1);
        Check.due("begin(1)", x.begin(1), 0);
        Check.due("begin(2)", x.begin(2), -1);
        Check.due("passed(400)", x.passed(400), 0);
        Check.due("doubt(0, NONE)", x.doubt(0, -1), -3);
        Check.due("posts(9999)", x.posts(9999), -3);
        Check.due("asleep(0)", x.asleep(0), 0);
        Check.due("asleep(1)", x.asleep(1), 1);
        x.sheet(0, 0, 3);
        Check.due("write(0)", x.write(0), 0);
    }

    private static void mainSection() {
        Check.of("SECTION: the main one is all outside of forks");
        HandCensus x = Check.row("p1(p1(p1)p1)p1(p1p1op1");
        int[] main = {1, 0, 0, 0, 1, 0, 0, 1};
        for (int p = 0; p < main.length; p++) {
            Check.due("person(" + p + ", 4)", x.person(p, 4), main[p]);
        }
        Check.due("count(2)", x.count(2), 3);
        Check.due("count(2) of twenty", Check.row(TWENTY).count(2), 20);
        Check.due("count(2) of one with nineteen in a fork", Check.row("p1(" + TWENTY.substring(2) + ")").count(2), 1);
    }

    private static void newObject() {
        Check.of("1 A new object: An empty ROW; all SHEETS are LOST");
        HandCensus x = new HandCensus();
        Check.due("count(1)", x.count(1), 0);
        Check.due("count(8)", x.count(8), 0);
        for (int s = 0; s <= 3; s++) {
            for (int form = 0; form <= 2; form++) {
                Check.due("put(" + s + ", " + form + ", 0, 0)", x.put(s, form, 0, 0), -11);
            }
            Check.due("lose(" + s + ")", x.lose(s), -11);
            Check.due("read(" + s + ")", x.read(s), -11);
            Check.due("write(" + s + ")", x.write(s), -11);
        }
        HandCensus other = Check.row("p1");
        Check.due("another object has its own", new HandCensus().count(1) + 10 * other.count(1), 20);
    }

    private static void typing() {
        Check.of("2 type: A byte (0 to 255) comes behind THE ROW: how many. BAD; FULL");
        HandCensus x = new HandCensus();
        for (int b : new int[] {-1, 256, 257, -256, 'p' + 256, LEAST, GREATEST}) {
            Check.due("type(" + b + ")", x.type(b), -2);
        }
        Check.due("none came", x.count(1), 0);
        Check.due("type(0)", x.type(0), 1);
        Check.due("type(255)", x.type(255), 2);
        for (int n = 3; n <= 60; n++) {
            Check.due("how many", x.type(n), n);
        }
        Check.due("FULL", x.type(0), -4);
        Check.due("FULL again", x.type('p'), -4);
        Check.due("BAD ahead of FULL", x.type(256), -2);
        Check.due("BAD ahead of FULL, below", x.type(-1), -2);
        Check.due("sixty stay", x.wipe(), 60);
    }

    private static void wiping() {
        Check.of("3 wipe: THE ROW is empty: how many bytes it had");
        HandCensus x = new HandCensus();
        Check.due("of none", x.wipe(), 0);
        x.type('p');
        Check.due("of one, not ended", x.wipe(), 1);
        Check.type(x, "sp1".repeat(20));
        Check.due("of sixty", x.wipe(), 60);
        Check.due("again", x.wipe(), 0);
        Check.due("a full one takes bytes again", x.type('x'), 1);
        Check.due("with a FAULT", x.wipe(), 1);
        Check.type(x, "d4");
        Check.due("nothing of the old one is left: KIND", x.person(0, 0), 3);
        Check.due("nothing of the old one is left: SCARF", x.person(0, 2), 0);
        Check.due("nothing of the old one is left: HANDS", x.person(0, 3), 0);
        Check.due("nothing of the old one is left: people", x.person(1, 0), -2);
        x.wipe();
        x.type('(');
        Check.due("nothing of the old one is left: one for a fork", x.fault(), 0);
        HandCensus scarf = Check.row("p1sp1");
        scarf.wipe();
        Check.type(scarf, "p1p1");
        Check.due("nothing of the old one is left: felt(1, 0)", scarf.felt(1, 0), 1);
        HandCensus bytes = Check.row("pp1p1");
        bytes.wipe();
        bytes.type('s');
        Check.due("nothing of the old one is left: a letter", bytes.fault(), 1);
        bytes.type('p');
        Check.due("nothing of the old one is left: a figure", bytes.fault(), 2);
    }

    private static void faults() {
        Check.of("4 fault: The FAULT; NONE");
        HandCensus x = new HandCensus();
        Check.due("of an empty one", x.fault(), -1);
        x.type('x');
        Check.due("the first place", x.fault(), 0);
        x.wipe();
        Check.due("none when it is empty", x.fault(), -1);
        Check.type(x, "sp1".repeat(19) + "sp");
        Check.due("the end", x.fault(), 59);
        x.type('x');
        Check.due("the last place", x.fault(), 59);
        stops("sp1".repeat(19) + "(sp", 60);
    }

    private static void persons() {
        Check.of("5 person: BAD");
        HandCensus x = Check.row("p1t2");
        for (int p : new int[] {-1, 2, 19, 20, LEAST, GREATEST}) {
            for (int what = 0; what <= 4; what++) {
                Check.due("person(" + p + ", " + what + ")", x.person(p, what), -2);
            }
        }
        for (int what : new int[] {-1, 5, LEAST, GREATEST}) {
            Check.due("person(1, " + what + ")", x.person(1, what), -2);
        }
        Check.due("the last of them", x.person(1, 0), 1);
        x.type('p');
        Check.due("not when it is not ended", x.person(1, 0), -2);
        x.type('1');
        Check.due("one more", x.person(2, 1), 1);
    }

    private static void set(HandCensus x, int what, int v, int want) {
        Check.due("set(" + what + ", " + v + ")", x.set(what, v), want);
    }

    private static void settings() {
        Check.of("6 set: FIRST (what = 0; 0 to 19)");
        HandCensus x = new HandCensus();
        set(x, 0, -1, -5);
        set(x, 0, 20, -5);
        set(x, 0, LEAST, -5);
        set(x, 0, GREATEST, -5);
        set(x, 0, 19, 0);
        set(x, 0, 0, 19);
        set(x, 0, 0, 0);
        Check.of("6 set: SECOND (1; -1 to 19)");
        set(x, 1, -2, -5);
        set(x, 1, 20, -5);
        set(x, 1, LEAST, -5);
        set(x, 1, GREATEST, -5);
        set(x, 1, 19, -1);
        set(x, 1, 0, 19);
        set(x, 1, -1, 0);
        set(x, 1, -1, -1);
        Check.of("6 set: WHEN (2), 0 to 99");
        set(x, 2, -1, -5);
        set(x, 2, 100, -5);
        set(x, 2, LEAST, -5);
        set(x, 2, GREATEST, -5);
        set(x, 2, 99, 0);
        set(x, 2, 0, 99);
        Check.of("6 set: BAD: -5");
        set(x, -1, 0, -5);
        set(x, 3, 0, -5);
        set(x, LEAST, 0, -5);
        set(x, GREATEST, 0, -5);
        Check.of("6 set: what it was, through wipe() and faults");
        x.set(0, 3);
        x.set(1, 4);
        x.set(2, 5);
        Check.type(x, "p1x");
        x.wipe();
        set(x, 0, 0, 3);
        set(x, 1, 0, 4);
        set(x, 2, 0, 5);
    }

    private static void calls() {
        Check.of("An object is used for at most 512 calls after it has been made");
        HandCensus x = new HandCensus();
        for (int round = 1; round <= 8; round++) {
            // 61 bytes, of which the last is refused, a question, a digest and wipe(): 64 calls
            Check.type(x, "sp1".repeat(20) + "p");
            Check.due("round " + round + ": person(19, 3)", x.person(19, 3), 1 << 18);
            Check.holds("round " + round + ": digest()", x.digest() == Check.row("sp1".repeat(20)).digest());
            Check.due("round " + round + ": wipe()", x.wipe(), 60);
        }
    }
}
