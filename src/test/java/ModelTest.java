import java.util.Arrays;
import java.util.Random;

/** All promises: long runs of calls, wild ones among them, on the class and on the model side by side. */
public final class ModelTest {
    private static final int RUNS = 1500;
    private static final int[] EDGES = {Integer.MIN_VALUE, -3, -2, -1, 0, 1, 2, 3, 4, 5, 6, 9, 10, 19, 20, 21, 59, 60, 61, 99,
        100, 101, 127, 128, 255, 256, 399, 400, 401, 999, 1000, 9999, 10000, 32768, Integer.MAX_VALUE};

    private final Random random;
    private HandCensus census = new HandCensus();
    private Model model = new Model();
    private final int run;

    private ModelTest(int run) {
        this.run = run;
        random = new Random(7919L * run + 1);
    }

    public static void main(String[] args) {
        for (int run = 0; run < RUNS; run++) {
            new ModelTest(run).go();
        }
        Check.end();
    }

    private void go() {
        int calls = 40 + random.nextInt(200);
        for (int made = 0; made < calls; ) {
            if (made == 0 || random.nextInt(40) == 0) {
                made += typeText();
            } else {
                call(random.nextInt(35));
                made++;
            }
        }
        Check.due("run " + run + ": digest()", census.digest(), model.digest());
    }

    private int typeText() {
        String text = random.nextInt(4) == 0 ? noise() : rowText();
        same("wipe()", census.wipe(), model.wipe());
        for (int i = 0; i < text.length(); i++) {
            same("type(" + (int) text.charAt(i) + ")", census.type(text.charAt(i)), model.type(text.charAt(i)));
            same("fault()", census.fault(), model.fault());
        }
        return 2 * text.length() + 1;
    }

    private String noise() {
        String signs = "ppppttcds1112345()oo(x0";
        StringBuilder out = new StringBuilder();
        int length = random.nextInt(62);
        for (int i = 0; i < length; i++) {
            out.append(signs.charAt(random.nextInt(signs.length())));
        }
        return out.toString();
    }

    private String rowText() {
        StringBuilder out = new StringBuilder();
        int most = 1 + random.nextInt(21);
        int slowest = 1 + random.nextInt(9);
        String kinds = new String[] {"p", "pppt", "pptcd", "ppppppppd", "tc", "ptc"}[random.nextInt(6)];
        section(out, most, slowest, kinds, 0);
        return out.toString();
    }

    // Adds a section of some people, with forks; answers how many of the people are left.
    private int section(StringBuilder out, int left, int slowest, String kinds, int depth) {
        int direct = 0;
        while (left > 0 && (direct == 0 || depth == 0 || random.nextInt(3) > 0)) {
            out.append(random.nextInt(6) == 0 ? "s" : "");
            out.append(kinds.charAt(random.nextInt(kinds.length()))).append(1 + random.nextInt(slowest));
            left--;
            direct++;
            while (depth < 3 && left > 0 && random.nextInt(4) == 0) {
                out.append('(');
                left = section(out, left, slowest, kinds, depth + 1);
            }
        }
        if (depth > 0) {
            out.append(direct > 1 && random.nextInt(3) > 0 ? 'o' : ')');
        }
        return left;
    }

    private int number(int from, int to) {
        return random.nextInt(25) == 0 ? EDGES[random.nextInt(EDGES.length)] : from + random.nextInt(to - from + 1);
    }

    private int one() {
        return number(0, Math.max(0, model.count(0) - 1));
    }

    // Now and then one who need not be there, or nobody.
    private int someone() {
        return random.nextInt(6) == 0 ? number(-1, 19) : one();
    }

    private void same(String call, long got, long want) {
        Check.due("run " + run + ": " + call, got, want);
    }

    private void call(int which) {
        int[] v = new int[5];
        if (which < 15) {
            callSqueeze(which, v);
        } else if (which < 26) {
            callTold(which, v);
        } else {
            callSheet(which, v);
        }
    }

    private String told(String name, int[] v) {
        return name + Arrays.toString(v);
    }

    private void callSqueeze(int which, int[] v) {
        v[0] = one();
        switch (which) {
            case 0: v[1] = number(0, 4); same(told("person", v), census.person(v[0], v[1]), model.person(v[0], v[1])); break;
            case 1: v[0] = number(0, 2); v[1] = v[0] == 2 ? number(0, random.nextInt(4) == 0 ? 99 : 30) : someone();
                same(told("set", v), census.set(v[0], v[1]), model.set(v[0], v[1])); break;
            case 2: v[1] = number(0, 8); same(told("felt", v), census.felt(v[0], v[1]), model.felt(v[0], v[1])); break;
            case 3: v[1] = number(0, 400); same(told("many", v), census.many(v[0], v[1]), model.many(v[0], v[1])); break;
            case 4: v[1] = number(0, 400); same(told("lost", v), census.lost(v[0], v[1]), model.lost(v[0], v[1])); break;
            case 5: v[1] = number(0, 300); same(told("from", v), census.from(v[0], v[1]), model.from(v[0], v[1])); break;
            case 6: same("reached", census.reached(), model.reached()); break;
            case 7: same("last", census.last(), model.last()); same("twice", census.twice(), model.twice()); break;
            case 8: same(told("round", v), census.round(v[0]), model.round(v[0])); break;
            case 9: v[0] = number(0, 2); same(told("begin", v), census.begin(v[0]), model.begin(v[0])); break;
            case 10: v[0] = number(0, 400); same(told("passed", v), census.passed(v[0]), model.passed(v[0])); break;
            case 11: v[0] = number(0, 400); v[1] = number(1, 5); v[2] = number(4, 9); v[3] = number(0, 20); v[4] = number(0, 1);
                same(told("spans", v), census.spans(v[0], v[1], v[2], v[3], v[4]), model.spans(v[0], v[1], v[2], v[3], v[4]));
                break;
            case 12: v[0] = number(1, 5); v[1] = number(4, 9); v[2] = number(0, 20) / (1 + random.nextInt(20));
                same(told("limits", v), census.limits(v[0], v[1], v[2]), model.limits(v[0], v[1], v[2])); break;
            case 13: v[0] = number(0, 5); v[1] = number(-1, Math.max(1, Math.min(5, v[0])) - 1);
                same(told("doubt", v), census.doubt(v[0], v[1]), model.doubt(v[0], v[1])); break;
            default: v[0] = number(0, 40); same(told("posts", v), census.posts(v[0]), model.posts(v[0])); break;
        }
    }

    private void callTold(int which, int[] v) {
        switch (which) {
            case 15: case 16: v[0] = one();
                v[1] = random.nextInt(5) == 0 ? number(-1, 400) : model.felt(v[0], 0);
                same(told("heard", v), census.heard(v[0], v[1]), model.heard(v[0], v[1])); break;
            case 17: v[0] = number(0, 3); same(told("read", v), census.read(v[0]), model.read(v[0])); break;
            case 18: same("forget", census.forget(), model.forget()); break;
            case 19: same("unlike", census.unlike(), model.unlike()); break;
            case 20: v[0] = number(0, 1); same(told("asleep", v), census.asleep(v[0]), model.asleep(v[0])); break;
            case 21: case 22: v[0] = number(0, 99); v[1] = number(0, 999);
                same(told("census", v), census.census(v[0], v[1]), model.census(v[0], v[1])); break;
            case 23: v[0] = number(0, 99); v[1] = number(0, 99);
                same(told("births", v), census.births(v[0], v[1]), model.births(v[0], v[1])); break;
            case 24: v[0] = number(0, 7); v[1] = number(0, 7);
                same(told("cannot", v), census.cannot(v[0], v[1]), model.cannot(v[0], v[1])); break;
            default: v[0] = number(0, 2); same(told("leave", v), census.leave(v[0]), model.leave(v[0])); break;
        }
    }

    private void callSheet(int which, int[] v) {
        v[0] = number(0, 3);
        v[1] = number(0, 2);
        v[2] = number(0, 8);
        switch (which) {
            case 26: same(told("sheet", v), census.sheet(v[0], v[1], v[2]), model.sheet(v[0], v[1], v[2])); break;
            case 27: same(told("lose", v), census.lose(v[0]), model.lose(v[0])); break;
            case 28: case 29: v[3] = number(-1, 20);
                same(told("put", v), census.put(v[0], v[1], v[2], v[3]), model.put(v[0], v[1], v[2], v[3])); break;
            case 30: same(told("get", v), census.get(v[0], v[1], v[2]), model.get(v[0], v[1], v[2])); break;
            case 31: v[1] = number(0, 5); v[2] = number(0, 3); v[3] = number(0, 5); v[4] = number(0, 5);
                same(told("copy", v), census.copy(v[0], v[1], v[2], v[3], v[4]), model.copy(v[0], v[1], v[2], v[3], v[4])); break;
            case 32: same(told("write", v), census.write(v[0]), model.write(v[0])); break;
            case 33: v[0] = number(0, 8); same(told("count", v), census.count(v[0]), model.count(v[0])); break;
            default: if (random.nextInt(8) == 0) { same("digest", census.digest(), model.digest()); } break;
        }
    }
}
