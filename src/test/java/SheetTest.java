/** Promises 30 to 35: sheet, lose, put, get, copy, write. */
public final class SheetTest {
    private static final int LEAST = Integer.MIN_VALUE;
    private static final int GREATEST = Integer.MAX_VALUE;

    public static void main(String[] args) {
        laying();
        layingAgain();
        losing();
        putting();
        wrongPuts();
        wrongGets();
        refusalsInOrder();
        copying();
        copyingOntoItself();
        wrongCopies();
        writing();
        writingNarrow();
        Check.end();
    }

    private static HandCensus with(int s, int form, int... items) {
        HandCensus x = new HandCensus();
        fill(x, s, form, items);
        return x;
    }

    private static void fill(HandCensus x, int s, int form, int... items) {
        x.sheet(s, form, items.length);
        for (int i = 0; i < items.length; i++) {
            x.put(s, form, i, items[i]);
        }
    }

    private static void has(HandCensus x, String name, int s, int form, int... items) {
        for (int i = 0; i < items.length; i++) {
            Check.due(name + ": item " + i, x.get(s, form, i), items[i]);
        }
        Check.due(name + ": behind the last", x.get(s, form, items.length), LEAST);
    }

    private static void laying() {
        HandCensus x = new HandCensus();
        for (int s = 0; s <= 3; s++) {
            for (int form = 0; form <= 2; form++) {
                for (int n : new int[] {0, 1, 60}) {
                    Check.due("sheet(" + s + ", " + form + ", " + n + ")", x.sheet(s, form, n), n);
                }
            }
        }
        int[][] wrong = {{-1, 0, 1}, {4, 0, 1}, {0, -1, 1}, {0, 3, 1}, {0, 0, 61}, {0, 0, GREATEST}, {4, 0, -1}, {0, 3, -1},
            {LEAST, 0, 0}, {0, LEAST, 0}};
        for (int[] w : wrong) {
            Check.due("wrong sheet(" + w[0] + ", " + w[1] + ", " + w[2] + ")", x.sheet(w[0], w[1], w[2]), -2);
        }
        Check.due("count(8) behind BAD", x.count(8), 0);
        Check.due("sheet(0, 0, -1)", x.sheet(0, 0, -1), -15);
        Check.due("count(8) behind SIZE", x.count(8), 5);
        Check.due("sheet(0, 0, least)", x.sheet(0, 0, LEAST), -15);
        Check.due("it is as it was", x.get(0, 2, 59), 0);
        Check.due("lose(0)", x.lose(0), 60);
        Check.due("SIZE of a LOST one", x.sheet(0, 1, -5), -15);
        Check.due("still LOST", x.lose(0), -11);
    }

    private static void layingAgain() {
        HandCensus x = with(1, 2, 5, 6, 7);
        has(x, "as put", 1, 2, 5, 6, 7);
        x.sheet(1, 2, 2);
        has(x, "new and shorter", 1, 2, 0, 0);
        x.put(1, 2, 1, 9);
        x.sheet(1, 0, 4);
        has(x, "new, of bytes", 1, 0, 0, 0, 0, 0);
        x.put(1, 0, 3, 8);
        x.lose(1);
        x.sheet(1, 0, 4);
        has(x, "new behind lose()", 1, 0, 0, 0, 0, 0);
    }

    private static void losing() {
        HandCensus x = new HandCensus();
        x.sheet(2, 1, 7);
        Check.due("lose(2)", x.lose(2), 7);
        Check.due("count(8)", x.count(8), 0);
        Check.due("lose(2) again", x.lose(2), -11);
        Check.due("count(8) then", x.count(8), 1);
        x.sheet(2, 1, 0);
        Check.due("lose(2) of no items", x.lose(2), 0);
        for (int s : new int[] {-1, 4, LEAST, GREATEST}) {
            Check.due("lose(" + s + ")", x.lose(s), -2);
        }
    }

    private static void putting() {
        HandCensus x = new HandCensus();
        int[] values = {0, 1, -1, 127, 128, 255, 256, -128, -129, 32767, 32768, 65535, 65536, -32769, GREATEST, LEAST};
        for (int form = 0; form <= 2; form++) {
            x.sheet(form, form, 60);
            for (int v : values) {
                int want = form == 0 ? (byte) v : form == 1 ? (short) v : v;
                Check.due("put(" + form + ", " + form + ", 59, " + v + ")", x.put(form, form, 59, v), 1);
                Check.due("get of " + v + " by form " + form, x.get(form, form, 59), want);
            }
        }
        Check.due("others are as they were", x.get(0, 0, 58), 0);
        Check.due("count(8)", x.count(8), 0);
        HandCensus y = with(0, 2, 1, 2, 3);
        fill(y, 1, 2, 4, 5, 6);
        has(y, "one sheet", 0, 2, 1, 2, 3);
        has(y, "another sheet", 1, 2, 4, 5, 6);
    }

    private static void wrongPuts() {
        HandCensus x = new HandCensus();
        x.sheet(0, 1, 3);
        int[][] wrong = {{-1, 1, 0, -2}, {4, 1, 0, -2}, {0, -1, 0, -2}, {0, 3, 0, -2}, {1, 1, 0, -11}, {0, 0, 0, -13},
            {0, 2, 0, -13}, {0, 1, -1, -12}, {0, 1, 3, -12}, {0, 1, GREATEST, -12}, {0, 1, LEAST, -12}};
        int latest = 0;
        for (int[] w : wrong) {
            Check.due("put(" + w[0] + ", " + w[1] + ", " + w[2] + ", 7)", x.put(w[0], w[1], w[2], 7), w[3]);
            latest = w[3] == -2 ? latest : -10 - w[3];
            Check.due("count(8) behind it", x.count(8), latest);
        }
        has(x, "unchanged", 0, 1, 0, 0, 0);
    }

    private static void wrongGets() {
        HandCensus x = new HandCensus();
        x.sheet(0, 1, 3);
        int[][] wrong = {{-1, 1, 0, 0}, {4, 1, 0, 0}, {0, -1, 0, 0}, {0, 3, 0, 0}, {1, 1, 0, 1}, {0, 0, 0, 3}, {4, 0, 0, 3},
            {0, 1, -1, 2}, {0, 2, 0, 3}, {0, 1, 3, 2}, {1, 1, 9, 1}, {0, 1, GREATEST, 2}, {1, 0, 0, 1}, {0, 1, LEAST, 2}};
        for (int[] w : wrong) {
            Check.due("get(" + w[0] + ", " + w[1] + ", " + w[2] + ")", x.get(w[0], w[1], w[2]), LEAST);
            Check.due("count(8) behind it", x.count(8), w[3]);
        }
        Check.due("get(0, 1, 2)", x.get(0, 1, 2), 0);
        Check.due("count(8) stays", x.count(8), 2);
    }

    private static void refusalsInOrder() {
        HandCensus x = new HandCensus();
        Check.due("BAD ahead of NULL", x.put(0, 3, 0, 0), -2);
        Check.due("NULL ahead of INDEX", x.put(0, 0, -1, 0), -11);
        x.sheet(0, 1, 1);
        Check.due("CAST ahead of INDEX", x.put(0, 0, -1, 0), -13);
        x.sheet(1, 2, 1);
        Check.due("copy: BAD ahead of NULL", x.copy(3, 0, 4, 0, 0), -2);
        Check.due("copy: NULL ahead of INDEX", x.copy(0, -1, 3, 0, 0), -11);
        Check.due("copy: NULL of s", x.copy(3, 0, 0, 0, 0), -11);
        Check.due("copy: STORE ahead of INDEX", x.copy(0, -1, 1, 0, 0), -14);
        Check.due("copy: count(8)", x.count(8), 4);
    }

    private static void copying() {
        HandCensus x = with(0, 1, 1, 2, 3, 4);
        fill(x, 3, 1, 9, 9, 9);
        Check.due("copy(0, 1, 3, 0, 2)", x.copy(0, 1, 3, 0, 2), 1);
        has(x, "to", 3, 1, 2, 3, 9);
        has(x, "from", 0, 1, 1, 2, 3, 4);
        Check.due("copy(0, 3, 3, 2, 1)", x.copy(0, 3, 3, 2, 1), 1);
        has(x, "to the end", 3, 1, 2, 3, 4);
        Check.due("copy of none, at the ends", x.copy(0, 4, 3, 3, 0), 1);
        has(x, "none came", 3, 1, 2, 3, 4);
        Check.due("copy of none, of no items", with(2, 0).copy(2, 0, 2, 0, 0), 1);
    }

    private static void copyingOntoItself() {
        HandCensus x = with(2, 2, 1, 2, 3, 4, 5);
        Check.due("onward", x.copy(2, 0, 2, 1, 4), 1);
        has(x, "onward", 2, 2, 1, 1, 2, 3, 4);
        Check.due("back", x.copy(2, 2, 2, 0, 3), 1);
        has(x, "back", 2, 2, 2, 3, 4, 3, 4);
    }

    private static void wrongCopies() {
        HandCensus x = with(0, 1, 1, 2, 3, 4);
        fill(x, 1, 1, 9, 9, 9);
        int[][] wrong = {{-1, 0, 1, 0, 1, -2}, {4, 0, 1, 0, 1, -2}, {0, 0, -1, 0, 1, -2}, {0, 0, 4, 0, 1, -2},
            {0, -1, 1, 0, 1, -12}, {0, 0, 1, -1, 1, -12}, {0, 0, 1, 0, -1, -12}, {0, 0, 1, 0, 4, -12}, {0, 3, 1, 0, 2, -12},
            {0, 0, 1, 2, 2, -12}, {0, 5, 1, 0, 0, -12}, {0, 0, 1, 4, 0, -12}, {0, GREATEST, 1, 0, GREATEST, -12},
            {0, 1, 1, 1, GREATEST, -12}, {0, LEAST, 1, LEAST, LEAST, -12}, {0, 4, 1, 0, LEAST, -12}, {2, 0, 0, 0, 1, -11},
            {0, 0, 2, 0, 1, -11}};
        for (int[] w : wrong) {
            String call = "wrong copy(" + java.util.Arrays.toString(w) + ")";
            Check.due(call, x.copy(w[0], w[1], w[2], w[3], w[4]), w[5]);
        }
        has(x, "unchanged", 1, 1, 9, 9, 9);
        Check.due("unchanged 0", x.get(0, 1, 3), 4);
    }

    private static void writing() {
        HandCensus x = Check.row("p3d2p1");
        fill(x, 0, 2, 7, 7, 7, 7, 7);
        Check.due("write(0)", x.write(0), 3);
        has(x, "written", 0, 2, 0, 3, -1, 7, 7);
        fill(x, 1, 2, 7, 7);
        Check.due("write(1)", x.write(1), 2);
        has(x, "written, shorter", 1, 2, 0, 3);
        x.sheet(2, 0, 0);
        Check.due("write(2) of no items", x.write(2), 0);
        Check.due("write(3)", x.write(3), -11);
        Check.due("count(8)", x.count(8), 1);
        for (int s : new int[] {-1, 4, LEAST, GREATEST}) {
            Check.due("write(" + s + ")", x.write(s), -2);
        }
        x.type('x');
        Check.due("write(0) with a fault", x.write(0), 0);
        has(x, "not written", 0, 2, 0, 3, -1, 7, 7);
        // what is written can be read
        HandCensus y = Check.row("p1");
        y.sheet(0, 1, 2);
        y.put(0, 1, 1, 0);
        y.write(0);
        Check.due("read(0) of what was written", y.read(0), 1);
        Check.due("unlike()", y.unlike(), 0);
    }

    private static void writingNarrow() {
        HandCensus x = Check.row("p9p9p9p9p9p9p9p9p9p9p9p9p9p9p9p9p9p9p9p9");
        x.sheet(0, 0, 60);
        x.sheet(1, 1, 60);
        Check.due("write(0) of bytes", x.write(0), 20);
        Check.due("write(1) of shorts", x.write(1), 20);
        for (int p = 0; p < 20; p++) {
            Check.due("byte " + p, x.get(0, 0, p), (byte) (9 * p));
            Check.due("short " + p, x.get(1, 1, p), 9 * p);
        }
        Check.due("behind the last of the PEOPLE", x.get(0, 0, 20), 0);
    }
}
