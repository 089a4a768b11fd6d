/** The boundary cases that the document names of SHEETS (Terms, and promises 30 to 35), a sentence at a time. */
public final class SheetEdgeTest {
    private static final int LEAST = Integer.MIN_VALUE;
    private static final int GREATEST = Integer.MAX_VALUE;
    private static final int[] NO_SHEETS = {-1, 4, LEAST, GREATEST};
    private static final int[] NO_FORMS = {-1, 3, LEAST, GREATEST};

    public static void main(String[] args) {
        lostAtFirst();
        formsAndSizes();
        zeroAtFirst();
        findings();
        badIsNoFinding();
        sheetRefuses();
        sheetOfSize();
        sheetLaidAnew();
        losing();
        lowestBits();
        signs();
        putRefuses();
        putInOrder();
        getIsTheLeastInt();
        getOfTheLeastInt();
        getInOrder();
        copyOfAll();
        copyOntoItself();
        copyRefusesSheets();
        copyStores();
        copyIndexes();
        copyOfNone();
        copyInOrder();
        writeAsManyAsThereAre();
        writeNarrow();
        writeNever();
        writeRefuses();
        Check.end();
    }

    private static HandCensus with(int s, int form, int... items) {
        HandCensus x = new HandCensus();
        fill(x, s, form, items);
        return x;
    }

    private static void fill(HandCensus x, int s, int form, int... items) {
        x.sheet(s, form, items.length);
        for (int i = 0; i < items.length; i++) {
            x.put(s, form, i, items[i]);
        }
    }

    private static void has(HandCensus x, int s, int form, int... items) {
        for (int i = 0; i < items.length; i++) {
            Check.due("get(" + s + ", " + form + ", " + i + ")", x.get(s, form, i), items[i]);
        }
        Check.due("get() behind the last", x.get(s, form, items.length), LEAST);
    }

    private static void lostAtFirst() {
        Check.of("SHEETS 0 .. 3 are LOST (at first)");
        HandCensus x = new HandCensus();
        for (int s = 0; s <= 3; s++) {
            Check.due("lose(" + s + ")", x.lose(s), -11);
        }
        for (int s : NO_SHEETS) {
            Check.due("lose(" + s + ")", x.lose(s), -2);
        }
    }

    private static void formsAndSizes() {
        Check.of("a row of a FORM: 0 bytes, 1 shorts, 2 ints, of 0 to 60 items");
        for (int form = 0; form <= 2; form++) {
            for (int n : new int[] {0, 1, 59, 60}) {
                HandCensus x = new HandCensus();
                Check.due("sheet(3, " + form + ", " + n + ")", x.sheet(3, form, n), n);
                Check.due("the last item", x.put(3, form, n - 1, 1), n == 0 ? -12 : 1);
                Check.due("behind the last", x.put(3, form, n, 1), -12);
                for (int other = 0; other <= 2; other++) {
                    Check.due("as of FORM " + other, x.put(3, other, 0, 1), other != form ? -13 : n == 0 ? -12 : 1);
                }
                Check.due("lose(3)", x.lose(3), n);
            }
        }
    }

    private static void zeroAtFirst() {
        Check.of("(0 at first)");
        HandCensus x = new HandCensus();
        for (int form = 0; form <= 2; form++) {
            x.sheet(form, form, 60);
            for (int i = 0; i < 60; i++) {
                Check.due("get(" + form + ", " + form + ", " + i + ")", x.get(form, form, i), 0);
            }
        }
    }

    private static void findings() {
        Check.of("FINDINGS (answers -10 less the number; they change nothing but count() 8)");
        HandCensus x = new HandCensus();
        Check.due("0 before any", x.count(8), 0);
        Check.due("1 NULL", x.lose(0), -11);
        Check.due("count(8)", x.count(8), 1);
        x.sheet(0, 0, 1);
        x.sheet(1, 1, 1);
        Check.due("2 INDEX", x.put(0, 0, 1, 9), -12);
        Check.due("count(8)", x.count(8), 2);
        Check.due("3 CAST", x.put(0, 1, 0, 9), -13);
        Check.due("count(8)", x.count(8), 3);
        Check.due("4 STORE", x.copy(0, 0, 1, 0, 1), -14);
        Check.due("count(8)", x.count(8), 4);
        Check.due("5 SIZE", x.sheet(0, 2, -1), -15);
        Check.due("count(8)", x.count(8), 5);
        has(x, 0, 0, 0);
        Check.due("the latest", x.count(8), 2);
        x.sheet(0, 0, 0);
        Check.due("it stays when all is well", x.count(8), 2);
    }

    private static void badIsNoFinding() {
        Check.of("BAD, NOT and FULL are no FINDINGS: count() 8 stays");
        HandCensus x = Check.row("sp1".repeat(20));
        x.sheet(0, 0, -1);
        x.type('p');
        x.type(256);
        x.set(3, 0);
        x.person(-1, 0);
        x.posts(-1);
        x.doubt(6, 0);
        x.heard(20, 0);
        x.census(100, 0);
        x.births(100, 0);
        x.sheet(4, 0, 0);
        x.put(0, 3, 0, 0);
        x.get(4, 0, 0);
        x.copy(4, 0, 0, 0, 0);
        x.write(4);
        x.read(4);
        x.lose(4);
        x.count(9);
        Check.due("count(8)", x.count(8), 5);
    }

    private static void sheetRefuses() {
        Check.of("30 sheet: BAD: SHEET, FORM, above 60");
        HandCensus x = with(0, 2, 7, 8);
        for (int s : NO_SHEETS) {
            Check.due("sheet(" + s + ", 0, 1)", x.sheet(s, 0, 1), -2);
            Check.due("BAD ahead of SIZE: sheet(" + s + ", 0, -1)", x.sheet(s, 0, -1), -2);
        }
        for (int form : NO_FORMS) {
            Check.due("sheet(0, " + form + ", 1)", x.sheet(0, form, 1), -2);
            Check.due("BAD ahead of SIZE: sheet(0, " + form + ", -1)", x.sheet(0, form, -1), -2);
        }
        Check.due("sheet(0, 0, 61)", x.sheet(0, 0, 61), -2);
        Check.due("sheet(0, 0, greatest)", x.sheet(0, 0, GREATEST), -2);
        Check.due("count(8)", x.count(8), 0);
        has(x, 0, 2, 7, 8);
    }

    private static void sheetOfSize() {
        Check.of("30 sheet: SIZE: below 0");
        HandCensus x = with(0, 2, 7, 8);
        Check.due("sheet(0, 0, -1)", x.sheet(0, 0, -1), -15);
        Check.due("sheet(0, 0, least)", x.sheet(0, 0, LEAST), -15);
        has(x, 0, 2, 7, 8);
        Check.due("of a LOST one", x.sheet(1, 0, -1), -15);
        Check.due("it is LOST", x.lose(1), -11);
        Check.due("of none it is not", x.sheet(1, 0, 0), 0);
    }

    private static void sheetLaidAnew() {
        Check.of("30 sheet: A SHEET is a new row");
        HandCensus x = with(2, 2, 7, 8, 9);
        Check.due("of like FORM and size", x.sheet(2, 2, 3), 3);
        has(x, 2, 2, 0, 0, 0);
        x.put(2, 2, 2, 5);
        x.sheet(2, 2, 1);
        x.sheet(2, 2, 3);
        has(x, 2, 2, 0, 0, 0);
        x.put(2, 2, 2, 5);
        x.lose(2);
        x.sheet(2, 0, 3);
        has(x, 2, 0, 0, 0, 0);
    }

    private static void losing() {
        Check.of("31 lose: It is LOST: how many items it had. BAD; NULL");
        HandCensus x = new HandCensus();
        for (int n : new int[] {0, 1, 60}) {
            x.sheet(1, 0, n);
            Check.due("lose(1) of " + n, x.lose(1), n);
            Check.due("lose(1) again", x.lose(1), -11);
            Check.due("get(1, 0, 0)", x.get(1, 0, 0), LEAST);
        }
        x.sheet(0, 0, 5);
        x.sheet(1, 0, 6);
        x.lose(0);
        Check.due("another is not LOST", x.lose(1), 6);
        HandCensus bad = new HandCensus();
        for (int s : NO_SHEETS) {
            Check.due("lose(" + s + ")", bad.lose(s), -2);
        }
        Check.due("count(8)", bad.count(8), 0);
    }

    private static void lowestBits() {
        Check.of("32 put: v (the lowest bits that it has)");
        int[] v = {256, 257, 511, 65536, 65537, 0x12345678, LEAST, GREATEST};
        int[] bytes = {0, 1, -1, 0, 1, 0x78, 0, -1};
        int[] shorts = {256, 257, 511, 0, 1, 0x5678, 0, -1};
        has(with(0, 0, v), 0, 0, bytes);
        has(with(0, 1, v), 0, 1, shorts);
        has(with(0, 2, v), 0, 2, v);
    }

    private static void signs() {
        Check.of("32 put: with its sign");
        int[] v = {127, 128, 255, -1, -128, -129, 32767, 32768, 65535, -32768, -32769};
        int[] bytes = {127, -128, -1, -1, -128, 127, -1, 0, -1, 0, -1};
        int[] shorts = {127, 128, 255, -1, -128, -129, 32767, -32768, -1, -32768, 32767};
        has(with(3, 0, v), 3, 0, bytes);
        has(with(3, 1, v), 3, 1, shorts);
        has(with(3, 2, v), 3, 2, v);
    }

    private static void put(HandCensus x, int s, int form, int i, int want) {
        Check.due("put(" + s + ", " + form + ", " + i + ", 7)", x.put(s, form, i, 7), want);
    }

    private static void putRefuses() {
        Check.of("32 put: BAD; NULL; CAST; INDEX");
        HandCensus x = with(0, 1, 3, 4);
        for (int s : NO_SHEETS) {
            put(x, s, 1, 0, -2);
        }
        for (int form : NO_FORMS) {
            put(x, 0, form, 0, -2);
        }
        put(x, 1, 1, 0, -11);
        put(x, 0, 0, 0, -13);
        put(x, 0, 2, 0, -13);
        for (int i : new int[] {-1, 2, 60, LEAST, GREATEST}) {
            put(x, 0, 1, i, -12);
        }
        has(x, 0, 1, 3, 4);
        put(x, 0, 1, 1, 1);
        has(x, 0, 1, 3, 7);
    }

    private static void putInOrder() {
        Check.of("32 put: the first that fits: BAD, NULL, CAST, INDEX");
        HandCensus x = with(0, 1, 3, 4);
        put(x, 1, 3, -1, -2);
        put(x, 4, 3, -1, -2);
        put(x, 1, 0, -1, -11);
        put(x, 0, 0, -1, -13);
        put(x, 0, 1, -1, -12);
    }

    private static void getIsTheLeastInt() {
        Check.of("33 get: BAD: the least int; so are NULL, CAST, INDEX (count() 8 tells)");
        HandCensus x = with(0, 1, 3, 4);
        // SHEET, FORM, item, and the latest FINDING behind it
        int[][] wrong = {{-1, 1, 0, 0}, {4, 1, 0, 0}, {0, -1, 0, 0}, {0, 3, 0, 0}, {1, 1, 0, 1}, {0, 0, 0, 3}, {0, 1, 2, 2},
            {0, 2, 0, 3}, {0, 1, -1, 2}, {4, 1, 0, 2}, {0, 3, 0, 2}, {3, 2, 0, 1}, {0, 1, LEAST, 2}, {1, 1, 0, 1},
            {0, 1, GREATEST, 2}, {LEAST, 0, 0, 2}, {0, GREATEST, 0, 2}};
        for (int[] w : wrong) {
            Check.due("get(" + w[0] + ", " + w[1] + ", " + w[2] + ")", x.get(w[0], w[1], w[2]), LEAST);
            Check.due("count(8) behind it", x.count(8), w[3]);
        }
    }

    private static void getOfTheLeastInt() {
        Check.of("33 get: Item i of it, the least int among them, and no FINDING then");
        HandCensus x = with(0, 2, LEAST, GREATEST, -1);
        Check.due("get(0, 2, 0)", x.get(0, 2, 0), LEAST);
        Check.due("get(0, 2, 1)", x.get(0, 2, 1), GREATEST);
        Check.due("get(0, 2, 2)", x.get(0, 2, 2), -1);
        Check.due("count(8)", x.count(8), 0);
    }

    private static void getInOrder() {
        Check.of("33 get: the first that fits: BAD, NULL, CAST, INDEX");
        HandCensus x = with(0, 1, 3, 4);
        x.get(1, 3, -1);
        Check.due("BAD ahead of NULL", x.count(8), 0);
        x.get(1, 0, -1);
        Check.due("NULL ahead of INDEX", x.count(8), 1);
        x.get(0, 0, -1);
        Check.due("CAST ahead of INDEX", x.count(8), 3);
        x.get(0, 1, -1);
        Check.due("INDEX", x.count(8), 2);
    }

    private static void copy(HandCensus x, int[] c, int want) {
        String call = "copy(" + c[0] + ", " + c[1] + ", " + c[2] + ", " + c[3] + ", " + c[4] + ")";
        Check.due(call, x.copy(c[0], c[1], c[2], c[3], c[4]), want);
    }

    private static void copyOfAll() {
        Check.of("34 copy: n items of SHEET s, from i on, come to SHEET t, from j on: 1");
        HandCensus x = new HandCensus();
        x.sheet(0, 0, 60);
        x.sheet(1, 0, 60);
        x.put(0, 0, 0, 5);
        x.put(0, 0, 59, 6);
        copy(x, new int[] {0, 0, 1, 0, 60}, 1);
        Check.due("the first", x.get(1, 0, 0), 5);
        Check.due("the last", x.get(1, 0, 59), 6);
        copy(x, new int[] {0, 59, 1, 0, 1}, 1);
        Check.due("the last to the first", x.get(1, 0, 0), 6);
        Check.due("the one behind is as it was", x.get(1, 0, 1), 0);
        HandCensus apart = with(3, 1, 1, 2);
        fill(apart, 0, 1, 8, 9);
        copy(apart, new int[] {3, 0, 0, 0, 2}, 1);
        apart.put(3, 1, 0, 77);
        has(apart, 0, 1, 1, 2);
    }

    private static void copyOntoItself() {
        Check.of("34 copy: (perhaps s, as they were)");
        HandCensus on = with(1, 0, 1, 2, 3, 4, 5, 6);
        copy(on, new int[] {1, 0, 1, 1, 5}, 1);
        has(on, 1, 0, 1, 1, 2, 3, 4, 5);
        HandCensus back = with(1, 0, 1, 2, 3, 4, 5, 6);
        copy(back, new int[] {1, 1, 1, 0, 5}, 1);
        has(back, 1, 0, 2, 3, 4, 5, 6, 6);
        HandCensus same = with(1, 0, 1, 2, 3);
        copy(same, new int[] {1, 0, 1, 0, 3}, 1);
        has(same, 1, 0, 1, 2, 3);
    }

    private static void copyRefusesSheets() {
        Check.of("34 copy: BAD: the SHEETS; NULL: s, t");
        HandCensus x = with(0, 0, 1, 2);
        for (int s : NO_SHEETS) {
            copy(x, new int[] {s, 0, 0, 0, 1}, -2);
            copy(x, new int[] {0, 0, s, 0, 1}, -2);
            copy(x, new int[] {s, 0, s, 0, 1}, -2);
        }
        Check.due("count(8)", x.count(8), 0);
        copy(x, new int[] {1, 0, 0, 0, 1}, -11);
        copy(x, new int[] {0, 0, 1, 0, 1}, -11);
        copy(x, new int[] {1, 0, 1, 0, 0}, -11);
        copy(x, new int[] {2, 0, 3, 0, 0}, -11);
        Check.due("count(8)", x.count(8), 1);
        has(x, 0, 0, 1, 2);
    }

    private static void copyStores() {
        Check.of("34 copy: STORE: unlike FORMS");
        HandCensus x = new HandCensus();
        for (int form = 0; form <= 2; form++) {
            x.sheet(form, form, 2);
        }
        for (int s = 0; s <= 2; s++) {
            for (int t = 0; t <= 2; t++) {
                copy(x, new int[] {s, 0, t, 0, 1}, s == t ? 1 : -14);
                copy(x, new int[] {s, 0, t, 0, 0}, s == t ? 1 : -14);
            }
        }
    }

    private static void copyIndexes() {
        Check.of("34 copy: INDEX: i, j or n below 0, not so many there");
        HandCensus x = with(0, 1, 1, 2, 3, 4);
        fill(x, 1, 1, 8, 9);
        int[][] wrong = {{0, -1, 1, 0, 1}, {0, 0, 1, -1, 1}, {0, 0, 1, 0, -1}, {0, 0, 1, 0, 3}, {0, 3, 1, 0, 2}, {0, 4, 1, 0, 1},
            {0, 0, 1, 1, 2}, {0, 0, 1, 2, 1}, {1, 0, 0, 0, 3}, {1, 1, 0, 0, 2}, {0, LEAST, 1, 0, 1}, {0, 0, 1, LEAST, 1},
            {0, 0, 1, 0, LEAST}, {0, GREATEST, 1, 0, 1}, {0, 0, 1, GREATEST, 1}, {0, 0, 1, 0, GREATEST},
            {0, GREATEST, 1, 0, GREATEST}, {0, 1, 1, 1, GREATEST}, {0, 3, 0, 0, 2}, {0, 0, 0, 3, 2}, {0, 4, 1, 2, -1}};
        for (int[] w : wrong) {
            copy(x, w, -12);
        }
        Check.due("count(8)", x.count(8), 2);
        has(x, 0, 1, 1, 2, 3, 4);
        has(x, 1, 1, 8, 9);
        copy(x, new int[] {0, 2, 1, 0, 2}, 1);
        has(x, 1, 1, 3, 4);
    }

    private static void copyOfNone() {
        Check.of("34 copy: (of n 0, too: i or j above the size)");
        HandCensus x = with(0, 1, 1, 2, 3, 4);
        fill(x, 1, 1, 8, 9);
        x.sheet(2, 1, 0);
        copy(x, new int[] {0, 4, 1, 2, 0}, 1);
        copy(x, new int[] {0, 5, 1, 2, 0}, -12);
        copy(x, new int[] {0, 4, 1, 3, 0}, -12);
        copy(x, new int[] {0, -1, 1, 0, 0}, -12);
        copy(x, new int[] {0, 0, 1, -1, 0}, -12);
        copy(x, new int[] {2, 0, 2, 0, 0}, 1);
        copy(x, new int[] {2, 1, 2, 0, 0}, -12);
        copy(x, new int[] {2, 0, 2, 1, 0}, -12);
        copy(x, new int[] {0, 60, 1, 0, 0}, -12);
        copy(x, new int[] {0, 0, 2, 0, 1}, -12);
        has(x, 1, 1, 8, 9);
    }

    private static void copyInOrder() {
        Check.of("34 copy: the first that fits: BAD, NULL, STORE, INDEX");
        HandCensus x = with(0, 1, 1, 2);
        x.sheet(1, 2, 2);
        copy(x, new int[] {3, -1, 4, 0, 0}, -2);
        copy(x, new int[] {4, -1, 3, 0, 0}, -2);
        copy(x, new int[] {0, -1, 3, 0, 0}, -11);
        copy(x, new int[] {3, -1, 0, 0, 0}, -11);
        copy(x, new int[] {0, -1, 1, 0, 0}, -14);
        copy(x, new int[] {0, -1, 0, 0, 0}, -12);
    }

    private static void writeAsManyAsThereAre() {
        Check.of("35 write: from item 0 on, as many as there are items and PEOPLE: how many");
        for (int people = 0; people <= 20; people += 5) {
            for (int items : new int[] {0, 1, 4, 5, 6, 19, 20, 21, 60}) {
                HandCensus x = Check.row("p2".repeat(people));
                x.sheet(2, 1, items);
                for (int i = 0; i < items; i++) {
                    x.put(2, 1, i, 99);
                }
                int want = Math.min(people, items);
                Check.due("write(2) of " + people + " to " + items, x.write(2), want);
                for (int i = 0; i < items; i++) {
                    Check.due("item " + i, x.get(2, 1, i), i < want ? 2 * i : 99);
                }
            }
        }
    }

    private static void writeNarrow() {
        Check.of("32 put: (the lowest bits that it has, with its sign; by write(), too)");
        // FIRST is not there; SECOND at 99, then each 12 later: 99 .. 315
        HandCensus x = Check.row("sp9".repeat(19));
        x.set(0, 19);
        x.set(1, 0);
        x.set(2, 99);
        x.sheet(0, 0, 19);
        x.sheet(1, 1, 19);
        x.sheet(2, 2, 19);
        for (int s = 0; s <= 2; s++) {
            Check.due("write(" + s + ")", x.write(s), 19);
        }
        Check.due("123 as a byte", x.get(0, 0, 2), 123);
        Check.due("135 as a byte", x.get(0, 0, 3), -121);
        Check.due("255 as a byte", x.get(0, 0, 13), -1);
        Check.due("267 as a byte", x.get(0, 0, 14), 11);
        Check.due("315 as a byte", x.get(0, 0, 18), 59);
        Check.due("315 as a short", x.get(1, 1, 18), 315);
        Check.due("315 as an int", x.get(2, 2, 18), 315);
    }

    private static void writeNever() {
        Check.of("35 write: TIMES at which PEOPLE 0 on FELT it first (NONE)");
        for (int form = 0; form <= 2; form++) {
            HandCensus x = Check.row("d1p1");
            fill(x, 0, form, 5, 6, 7);
            Check.due("write(0)", x.write(0), 2);
            has(x, 0, form, 0, -1, 7);
            x.set(0, 2);
            Check.due("write(0) when nothing begins", x.write(0), 2);
            has(x, 0, form, -1, -1, 7);
        }
    }

    private static void writeRefuses() {
        Check.of("35 write: BAD; NULL");
        HandCensus x = Check.row("p1");
        for (int s : NO_SHEETS) {
            Check.due("write(" + s + ")", x.write(s), -2);
        }
        Check.due("count(8)", x.count(8), 0);
        for (int s = 0; s <= 3; s++) {
            Check.due("write(" + s + ")", x.write(s), -11);
        }
        Check.due("count(8)", x.count(8), 1);
        Check.due("of nobody, too", new HandCensus().write(0), -11);
    }
}
