import java.util.ArrayList;
import java.util.Comparator;
import java.util.List;
import java.util.PriorityQueue;

/**
 * The document once more, told as plainly as can be and with nothing kept from one call to the next:
 * a text read by recursion, a queue of all that is felt, all rows of posts tried.
 */
final class Model {
    private static final int NONE = -1, BAD = -2, NOT = -3, FULL = -4;

    /** One of the people. */
    private static final class Person {
        String kind;
        int late;
        boolean scarf;
        boolean main;
    }

    /** Two who hold hands. */
    private record Pair(int earlier, int later, boolean closesRing) {
    }

    /** A squeeze that comes to one; the rank tells what comes first of all that comes at one time. */
    private record Arrival(int time, int to, int rank, int source) {
    }

    /** What was felt or lost. */
    private record Mark(int time, int to, int source, boolean lost) {
    }

    /** A text that cannot go on. */
    private static final class Stop extends RuntimeException {
        private static final long serialVersionUID = 1L;
        final int place;

        Stop(int place) {
            this.place = place;
        }
    }

    private final StringBuilder text = new StringBuilder();
    private int first = 0, second = NONE, when = 0;
    private int a = 1, b = 9, e = 0;
    private final List<int[]> told = new ArrayList<>();
    private final List<int[]> censuses = new ArrayList<>();
    private final int[] born = new int[100];
    private final int[][] sheets = new int[4][];
    private final int[] forms = new int[4];
    private int latest = 0;

    // what the text was read as
    private List<Person> people;
    private List<Pair> pairs;
    private int faultPlace;
    private int at;

    Model() {
        readText();
    }

    // ---- the row

    private void readText() {
        people = new ArrayList<>();
        pairs = new ArrayList<>();
        faultPlace = NONE;
        at = 0;
        try {
            section(NONE, 0);
        } catch (Stop stop) {
            people = new ArrayList<>();
            pairs = new ArrayList<>();
            faultPlace = stop.place;
        }
    }

    private char peek() {
        return at < text.length() ? text.charAt(at) : (char) 999;
    }

    // All of a section, up to its end; the main one has no anchor.
    private void section(int anchor, int depth) {
        int ahead = anchor;
        int direct = 0;
        while (true) {
            char c = peek();
            if (at >= text.length()) {
                if (depth > 0) {
                    throw new Stop(at);
                }
                return;
            }
            if (c == '(') {
                if (direct == 0 || depth == 3) {
                    throw new Stop(at);
                }
                at++;
                section(ahead, depth + 1);
            } else if (c == ')') {
                if (depth == 0 || direct < 1) {
                    throw new Stop(at);
                }
                at++;
                return;
            } else if (c == 'o') {
                if (depth == 0 || direct < 2) {
                    throw new Stop(at);
                }
                pairs.add(new Pair(anchor, ahead, true));
                at++;
                return;
            } else {
                int one = person(depth == 0);
                if (ahead != NONE) {
                    pairs.add(new Pair(ahead, one, false));
                }
                ahead = one;
                direct++;
            }
        }
    }

    private int person(boolean main) {
        if (people.size() == 20) {
            throw new Stop(at);
        }
        Person one = new Person();
        one.main = main;
        if (peek() == 's') {
            one.scarf = true;
            at++;
        }
        if ("ptcd".indexOf(peek()) < 0) {
            throw new Stop(at);
        }
        one.kind = "" + peek();
        at++;
        if ("123456789".indexOf(peek()) < 0) {
            throw new Stop(at);
        }
        one.late = peek() - '0';
        at++;
        people.add(one);
        return people.size() - 1;
    }

    int type(int v) {
        if (v < 0 || v > 255) {
            return BAD;
        }
        if (text.length() == 60) {
            return FULL;
        }
        text.append((char) v);
        readText();
        return text.length();
    }

    int wipe() {
        int had = text.length();
        text.setLength(0);
        readText();
        return had;
    }

    int fault() {
        return faultPlace;
    }

    private boolean there(int p) {
        return p >= 0 && p < people.size();
    }

    private int handsOf(int p) {
        int bits = 0;
        for (Pair pair : pairs) {
            if (pair.earlier == p) {
                bits |= 1 << pair.later;
            }
            if (pair.later == p) {
                bits |= 1 << pair.earlier;
            }
        }
        return bits;
    }

    int person(int p, int what) {
        if (!there(p) || what < 0 || what > 4) {
            return BAD;
        }
        Person one = people.get(p);
        return new int[] {"ptcd".indexOf(one.kind), one.late, one.scarf ? 1 : 0, handsOf(p), one.main ? 1 : 0}[what];
    }

    int set(int what, int v) {
        int least = what == 1 ? -1 : 0;
        int most = what == 2 ? 99 : 19;
        if (what < 0 || what > 2 || v < least || v > most) {
            return -5;
        }
        int was = what == 0 ? first : what == 1 ? second : when;
        if (what == 0) {
            first = v;
        } else if (what == 1) {
            second = v;
        } else {
            when = v;
        }
        return was;
    }

    // ---- squeezes

    private List<Mark> squeeze(int begins, int again, int sleeper) {
        List<Mark> marks = new ArrayList<>();
        PriorityQueue<Arrival> queue = new PriorityQueue<>(
            Comparator.comparingInt(Arrival::time).thenComparingInt(Arrival::to).thenComparingInt(Arrival::rank));
        int[] freeAt = new int[people.size()];
        int[] feltBy = new int[people.size()];
        if (there(begins)) {
            queue.add(new Arrival(0, begins, -2, NONE));
        }
        if (there(again)) {
            queue.add(new Arrival(when, again, -1, NONE));
        }
        while (!queue.isEmpty()) {
            Arrival now = queue.remove();
            if (now.time > 400) {
                break;
            }
            int p = now.to;
            boolean lost = now.time < freeAt[p];
            marks.add(new Mark(now.time, p, now.source, lost));
            if (lost) {
                continue;
            }
            feltBy[p]++;
            Person one = people.get(p);
            String kind = p == sleeper ? "d" : one.kind;
            boolean passes = kind.equals("p") || kind.equals("t") || kind.equals("c") && feltBy[p] % 2 == 0;
            int times = !passes ? 0 : kind.equals("t") ? 2 : 1;
            for (int n = 1; n <= times; n++) {
                freeAt[p] = now.time + n * one.late;
                pass(queue, p, freeAt[p], now.source);
            }
        }
        return marks;
    }

    private void pass(PriorityQueue<Arrival> queue, int p, int time, int source) {
        for (Pair pair : pairs) {
            if (pair.earlier != p && pair.later != p) {
                continue;
            }
            int other = pair.earlier == p ? pair.later : pair.earlier;
            boolean longer = people.get(pair.later).scarf && !pair.closesRing;
            if (other != source) {
                queue.add(new Arrival(longer ? time + 3 : time, other, p, p));
            }
        }
    }

    private List<Mark> asTold() {
        return squeeze(first, second, NONE);
    }

    private static List<Mark> feltOf(List<Mark> marks, int p) {
        List<Mark> out = new ArrayList<>();
        for (Mark m : marks) {
            if (m.to == p && !m.lost) {
                out.add(m);
            }
        }
        return out;
    }

    private static int firstOf(List<Mark> marks, int p) {
        List<Mark> felt = feltOf(marks, p);
        return felt.isEmpty() ? NONE : felt.get(0).time;
    }

    private int reachedOf(List<Mark> marks) {
        int bits = 0;
        for (Mark m : marks) {
            bits |= 1 << m.to;
        }
        return bits;
    }

    private int lastOf(List<Mark> marks) {
        int last = NONE;
        for (int p = 0; p < people.size(); p++) {
            last = Math.max(last, firstOf(marks, p));
        }
        return last;
    }

    int felt(int p, int k) {
        if (!there(p) || k < 0) {
            return BAD;
        }
        List<Mark> felt = feltOf(asTold(), p);
        return k < felt.size() ? felt.get(k).time : NONE;
    }

    int from(int p, int k) {
        if (!there(p) || k < 0) {
            return BAD;
        }
        List<Mark> felt = feltOf(asTold(), p);
        return k < felt.size() ? felt.get(k).source : NONE;
    }

    private int marked(int p, int time, boolean lost) {
        int n = 0;
        for (Mark m : asTold()) {
            if ((p == NONE || m.to == p) && m.time <= time && m.lost == lost) {
                n++;
            }
        }
        return n;
    }

    int many(int p, int time) {
        return there(p) && time >= 0 && time <= 400 ? marked(p, time, false) : BAD;
    }

    int lost(int p, int time) {
        return there(p) && time >= 0 && time <= 400 ? marked(p, time, true) : BAD;
    }

    int passed(int time) {
        return time >= 0 && time <= 400 ? marked(NONE, time, false) : BAD;
    }

    int reached() {
        return reachedOf(asTold());
    }

    int last() {
        return lastOf(asTold());
    }

    int twice() {
        int bits = 0;
        for (int p = 0; p < people.size(); p++) {
            if (feltOf(asTold(), p).size() > 1) {
                bits |= 1 << p;
            }
        }
        return bits;
    }

    int round(int p) {
        if (!there(p)) {
            return BAD;
        }
        List<Mark> felt = feltOf(asTold(), p);
        return felt.size() < 2 ? NONE : felt.get(1).time - felt.get(0).time;
    }

    int begin(int what) {
        if (what < 0 || what > 2) {
            return BAD;
        }
        int[] best = {NONE, 0, NONE};
        for (int p = 0; p < people.size(); p++) {
            List<Mark> marks = squeeze(p, NONE, NONE);
            int[] next = {p, Integer.bitCount(reachedOf(marks)), lastOf(marks)};
            if (best[0] == NONE || next[1] > best[1] || next[1] == best[1] && next[2] < best[2]) {
                best = next;
            }
        }
        return best[what];
    }

    // ---- counting

    private static boolean limitsAreWrong(int a, int b, int e) {
        return a < 1 || a > 9 || b < 1 || b > 9 || a > b || e < 0 || e > 20;
    }

    private static int fewest(int t, int b, int e) {
        int n = 0;
        while (n * b < t - e) {
            n++;
        }
        return n;
    }

    private static int most(int t, int a, int e) {
        int n = 0;
        while ((n + 1) * a <= t + e) {
            n++;
        }
        return n;
    }

    int spans(int t, int a, int b, int e, int what) {
        if (t < 0 || t > 400 || limitsAreWrong(a, b, e) || what < 0 || what > 1) {
            return BAD;
        }
        if (most(t, a, e) < fewest(t, b, e)) {
            return NONE;
        }
        return what == 0 ? fewest(t, b, e) : most(t, a, e);
    }

    int limits(int a, int b, int e) {
        if (limitsAreWrong(a, b, e)) {
            return BAD;
        }
        int was = 100 * this.a + 10 * this.b + Math.min(this.e, 9);
        this.a = a;
        this.b = b;
        this.e = e;
        return was;
    }

    private List<int[]> reachedOfMain() {
        List<Mark> marks = asTold();
        List<int[]> out = new ArrayList<>();
        for (int p = 0; p < people.size(); p++) {
            if (people.get(p).main && firstOf(marks, p) != NONE) {
                out.add(new int[] {p, firstOf(marks, p)});
            }
        }
        return out;
    }

    private int doubtOf(List<int[]> posts) {
        int sum = 0;
        for (int i = 1; i < posts.size(); i++) {
            int t = Math.abs(posts.get(i)[1] - posts.get(i - 1)[1]);
            sum += Math.max(0, most(t, a, e) - fewest(t, b, e));
        }
        return sum;
    }

    // The best of all rows of n posts: its doubt, then its numbers; null, if there are not so many.
    private int[] bestRow(int n) {
        List<int[]> all = reachedOfMain();
        if (all.isEmpty() || n > Math.max(0, all.size() - 2)) {
            return null;
        }
        if (all.size() == 1) {
            return new int[] {0};
        }
        int[][] best = new int[1][];
        tryRows(all, n, 1, new ArrayList<>(List.of(all.get(0))), best);
        return best[0];
    }

    // Rows come in the order of their numbers, so that the first of like ones is the least.
    private void tryRows(List<int[]> all, int n, int next, List<int[]> row, int[][] best) {
        if (row.size() == n + 1) {
            row.add(all.get(all.size() - 1));
            int doubt = doubtOf(row);
            if (best[0] == null || doubt < best[0][0]) {
                best[0] = new int[n + 1];
                best[0][0] = doubt;
                for (int i = 1; i <= n; i++) {
                    best[0][i] = row.get(i)[0];
                }
            }
            row.remove(row.size() - 1);
            return;
        }
        for (int i = next; i < all.size() - 1; i++) {
            row.add(all.get(i));
            tryRows(all, n, i + 1, row, best);
            row.remove(row.size() - 1);
        }
    }

    int doubt(int n, int i) {
        if (n < 0 || n > 5 || i < -1 || i >= n) {
            return BAD;
        }
        int[] best = bestRow(n);
        return best == null ? NOT : best[i + 1];
    }

    int posts(int doubt) {
        if (doubt < 0 || doubt > 9999) {
            return BAD;
        }
        if (reachedOfMain().isEmpty()) {
            return NOT;
        }
        for (int n = 0; n <= 5; n++) {
            int[] best = bestRow(n);
            if (best != null && best[0] <= doubt) {
                return n;
            }
        }
        return NONE;
    }

    // ---- sleepers, censuses

    int heard(int p, int time) {
        if (p < 0 || p > 19 || time < -1 || time > 400) {
            return BAD;
        }
        if (told.size() == 12) {
            return FULL;
        }
        told.add(new int[] {p, time});
        return told.size();
    }

    int read(int s) {
        if (s < 0 || s > 3) {
            return BAD;
        }
        if (sheets[s] == null) {
            return finding(1);
        }
        for (int i = 0; i < sheets[s].length / 2; i++) {
            if (heard(sheets[s][2 * i], sheets[s][2 * i + 1]) < 0) {
                return i;
            }
        }
        return sheets[s].length / 2;
    }

    int forget() {
        int had = told.size();
        told.clear();
        return had;
    }

    private int unlikeOf(List<Mark> marks) {
        int n = 0;
        for (int[] one : told) {
            if (firstOf(marks, one[0]) != one[1]) {
                n++;
            }
        }
        return n;
    }

    int unlike() {
        return unlikeOf(asTold());
    }

    int asleep(int what) {
        if (what < 0 || what > 1) {
            return BAD;
        }
        if (what == 1) {
            return unlike() == 0 ? 1 : 0;
        }
        int bits = 0;
        for (int p = 0; p < people.size(); p++) {
            if (unlikeOf(squeeze(first, second, p)) == 0) {
                bits |= 1 << p;
            }
        }
        return bits;
    }

    int census(int year, int many) {
        if (year < 0 || year > 99 || many < 0 || many > 9999) {
            return BAD;
        }
        if (censuses.size() == 8) {
            return FULL;
        }
        censuses.add(new int[] {year, many});
        return censuses.size() - 1;
    }

    int births(int year, int v) {
        if (year < 0 || year > 99 || v < 0 || v > 999) {
            return BAD;
        }
        int was = born[year];
        born[year] = v;
        return was;
    }

    // Whether one, as the later or of the same year, has more than can have come of the other.
    private boolean tooMany(int[] later, int[] earlier) {
        if (later[0] < earlier[0]) {
            return false;
        }
        int may = earlier[1];
        for (int year = earlier[0]; year <= later[0] - 1; year++) {
            may += born[year];
        }
        return later[1] > may;
    }

    int cannot(int a, int b) {
        if (a < 0 || a >= censuses.size() || b < 0 || b >= censuses.size() || a == b) {
            return BAD;
        }
        return tooMany(censuses.get(a), censuses.get(b)) || tooMany(censuses.get(b), censuses.get(a)) ? 1 : 0;
    }

    private int pairsWithout(int out) {
        int n = 0;
        for (int i = 0; i < censuses.size(); i++) {
            for (int j = i + 1; j < censuses.size(); j++) {
                if ((out >> i & 1) == 0 && (out >> j & 1) == 0) {
                    n += cannot(i, j);
                }
            }
        }
        return n;
    }

    int leave(int what) {
        if (what < 0 || what > 2) {
            return BAD;
        }
        if (what == 0) {
            return pairsWithout(0);
        }
        for (int many = 0; many <= 8; many++) {
            for (int out = 0; out < 1 << censuses.size(); out++) {
                if (Integer.bitCount(out) == many && pairsWithout(out) == 0) {
                    return what == 1 ? many : out;
                }
            }
        }
        throw new IllegalStateException("all left out is always enough");
    }

    // ---- sheets

    private int finding(int number) {
        latest = number;
        return -10 - number;
    }

    int sheet(int s, int form, int n) {
        if (s < 0 || s > 3 || form < 0 || form > 2 || n > 60) {
            return BAD;
        }
        if (n < 0) {
            return finding(5);
        }
        sheets[s] = new int[n];
        forms[s] = form;
        return n;
    }

    int lose(int s) {
        if (s < 0 || s > 3) {
            return BAD;
        }
        if (sheets[s] == null) {
            return finding(1);
        }
        int had = sheets[s].length;
        sheets[s] = null;
        return had;
    }

    private void store(int s, int i, int v) {
        int bits = forms[s] == 0 ? 24 : forms[s] == 1 ? 16 : 0;
        sheets[s][i] = v << bits >> bits;
    }

    // 0: it is well; BAD; the number of a finding
    private int look(int s, int form, int i) {
        if (s < 0 || s > 3 || form < 0 || form > 2) {
            return BAD;
        }
        if (sheets[s] == null) {
            return 1;
        }
        if (forms[s] != form) {
            return 3;
        }
        return i < 0 || i >= sheets[s].length ? 2 : 0;
    }

    int put(int s, int form, int i, int v) {
        int seen = look(s, form, i);
        if (seen != 0) {
            return seen == BAD ? BAD : finding(seen);
        }
        store(s, i, v);
        return 1;
    }

    int get(int s, int form, int i) {
        int seen = look(s, form, i);
        if (seen > 0) {
            finding(seen);
        }
        return seen == 0 ? sheets[s][i] : Integer.MIN_VALUE;
    }

    int copy(int s, int i, int t, int j, int n) {
        if (s < 0 || s > 3 || t < 0 || t > 3) {
            return BAD;
        }
        if (sheets[s] == null || sheets[t] == null) {
            return finding(1);
        }
        if (forms[s] != forms[t]) {
            return finding(4);
        }
        if (i < 0 || j < 0 || n < 0 || (long) i + n > sheets[s].length || (long) j + n > sheets[t].length) {
            return finding(2);
        }
        int[] asTheyWere = sheets[s].clone();
        for (int k = 0; k < n; k++) {
            sheets[t][j + k] = asTheyWere[i + k];
        }
        return 1;
    }

    int write(int s) {
        if (s < 0 || s > 3) {
            return BAD;
        }
        if (sheets[s] == null) {
            return finding(1);
        }
        List<Mark> marks = asTold();
        int n = 0;
        while (n < sheets[s].length && n < people.size()) {
            store(s, n, firstOf(marks, n));
            n++;
        }
        return n;
    }

    int count(int what) {
        int main = 0;
        for (Person one : people) {
            main += one.main ? 1 : 0;
        }
        int births = 0;
        for (int n : born) {
            births += n;
        }
        switch (what) {
            case 0: return people.size();
            case 1: return text.length();
            case 2: return main;
            case 3: return pairs.size();
            case 4: return told.size();
            case 5: return censuses.size();
            case 6: return births;
            case 7: return marked(NONE, 400, true);
            case 8: return latest;
            default: return BAD;
        }
    }

    long digest() {
        List<Integer> all = new ArrayList<>();
        for (int what = 0; what <= 7; what++) {
            all.add(count(what));
        }
        all.add(fault());
        for (int p = 0; p < people.size(); p++) {
            for (int what = 0; what <= 4; what++) {
                all.add(person(p, what));
            }
            all.addAll(List.of(felt(p, 0), felt(p, 1), many(p, 100), lost(p, 400), round(p)));
        }
        all.addAll(List.of(reached(), last(), twice(), begin(0), begin(1), begin(2), passed(50), doubt(1, NONE), posts(20)));
        all.addAll(List.of(unlike(), asleep(0), asleep(1), leave(0), leave(1), leave(2)));
        long h = 17;
        for (int v : all) {
            h = 31 * h + v;
        }
        return h;
    }
}
