import java.util.Arrays;

/**
 * A census taken by having all hold hands and counting how long a squeeze takes.
 * What each call promises is told in ../shared/DOC.md; the words used here are its words.
 */
public final class HandCensus {
    public static final int NONE = -1, BAD = -2, NOT = -3, FULL = -4;

    // set() answers NONE for a SECOND that was not there, so its refusal has a number of its own
    private static final int BAD_SETTING = -5;
    private static final int PEOPLE = 20;
    private static final int LATEST = 400;
    private static final int LATEST_SECOND = 99;
    private static final int MOST_POSTS = 5;
    private static final int MOST_DOUBT = 9999;

    private final Row row;
    private final Squeeze told;
    private final Beginning beginning;
    private final Sleepers sleepers;
    private final Posting posting;
    private final Hearsay hearsay;
    private final Register register;
    private final Shelf shelf;
    private int first;
    private int second;
    private int when;
    private boolean ran;

    public HandCensus() {
        row = new Row();
        told = new Squeeze(row, new Diary());
        Squeeze trial = new Squeeze(row, null);
        beginning = new Beginning(row, trial);
        sleepers = new Sleepers(row, trial);
        posting = new Posting();
        hearsay = new Hearsay();
        register = new Register();
        shelf = new Shelf();
        first = 0;
        second = NONE;
        when = 0;
        ran = false;
    }

    // ---- the row

    public int type(int b) {
        if (b < 0 || b > 255) {
            return BAD;
        }
        if (!row.append(b)) {
            return FULL;
        }
        rowChanged();
        return row.length;
    }

    public int wipe() {
        int had = row.length;
        row.empty();
        rowChanged();
        return had;
    }

    public int fault() {
        return row.faultPlace;
    }

    public int person(int p, int what) {
        if (!isPerson(p)) {
            return BAD;
        }
        switch (what) {
            case 0:
                return row.kinds[p];
            case 1:
                return row.lates[p];
            case 2:
                return (row.scarves >> p) & 1;
            case 3:
                return row.hands[p];
            case 4:
                return (row.main >> p) & 1;
            default:
                return BAD;
        }
    }

    public int set(int what, int v) {
        int was;
        if (what == 0 && v >= 0 && v < PEOPLE) {
            was = first;
            first = v;
        } else if (what == 1 && v >= NONE && v < PEOPLE) {
            was = second;
            second = v;
        } else if (what == 2 && v >= 0 && v <= LATEST_SECOND) {
            was = when;
            when = v;
        } else {
            return BAD_SETTING;
        }
        squeezeChanged();
        return was;
    }

    // ---- squeezes

    public int felt(int p, int k) {
        if (!isPerson(p) || k < 0) {
            return BAD;
        }
        return asTold().timeOfFelt(p, k);
    }

    public int many(int p, int time) {
        if (!isPerson(p) || !isTime(time)) {
            return BAD;
        }
        return asTold().feltUpTo(p, time);
    }

    public int lost(int p, int time) {
        if (!isPerson(p) || !isTime(time)) {
            return BAD;
        }
        return asTold().lostUpTo(p, time);
    }

    public int from(int p, int k) {
        if (!isPerson(p) || k < 0) {
            return BAD;
        }
        return asTold().sourceOfFelt(p, k);
    }

    public int reached() {
        return asTold().reachedBits();
    }

    public int last() {
        return asTold().lastTime();
    }

    public int twice() {
        return asTold().twiceBits();
    }

    public int round(int p) {
        if (!isPerson(p)) {
            return BAD;
        }
        int again = asTold().timeOfFelt(p, 1);
        return again == NONE ? NONE : again - told.firstAt[p];
    }

    public int begin(int what) {
        if (what < 0 || what > 2) {
            return BAD;
        }
        beginning.findOut();
        if (what == 0) {
            return beginning.who;
        }
        return what == 1 ? beginning.reaches : beginning.lastTime;
    }

    public int passed(int time) {
        return isTime(time) ? asTold().allFeltUpTo(time) : BAD;
    }

    // ---- counting

    public int spans(int t, int a, int b, int e, int what) {
        if (!isTime(t) || !areLimits(a, b, e) || what < 0 || what > 1) {
            return BAD;
        }
        int fewest = Posting.fewest(t, b, e);
        int most = Posting.most(t, a, e);
        if (most < fewest) {
            return NONE;
        }
        return what == 0 ? fewest : most;
    }

    public int limits(int a, int b, int e) {
        if (!areLimits(a, b, e)) {
            return BAD;
        }
        int was = posting.limitsAsOne();
        posting.setLimits(a, b, e);
        return was;
    }

    public int doubt(int n, int i) {
        if (n < 0 || n > MOST_POSTS || i < NONE || i >= n) {
            return BAD;
        }
        posting.gather(row, asTold());
        if (!posting.hasRoomFor(n)) {
            return NOT;
        }
        posting.work(n);
        return i == NONE ? posting.leastDoubt(n) : posting.chosen(n, i);
    }

    public int posts(int doubt) {
        if (doubt < 0 || doubt > MOST_DOUBT) {
            return BAD;
        }
        posting.gather(row, asTold());
        if (!posting.hasRoomFor(0)) {
            return NOT;
        }
        posting.work(MOST_POSTS);
        for (int n = 0; n <= MOST_POSTS && posting.hasRoomFor(n); n++) {
            if (posting.leastDoubt(n) <= doubt) {
                return n;
            }
        }
        return NONE;
    }

    // ---- sleepers, censuses

    public int heard(int p, int time) {
        return hearsay.take(p, time);
    }

    public int read(int s) {
        if (!Shelf.isPlace(s)) {
            return BAD;
        }
        if (shelf.isLost(s)) {
            return shelf.finding(Shelf.NULL);
        }
        int taken = 0;
        for (int pair = 0; 2 * pair + 1 < shelf.sizes[s]; pair++) {
            int answer = hearsay.take(shelf.itemAt(s, 2 * pair), shelf.itemAt(s, 2 * pair + 1));
            if (answer < 0) {
                break;
            }
            taken++;
        }
        return taken;
    }

    public int forget() {
        int had = hearsay.size;
        hearsay.size = 0;
        return had;
    }

    public int unlike() {
        return hearsay.notSo(asTold().firstAt, 0);
    }

    public int asleep(int what) {
        if (what < 0 || what > 1) {
            return BAD;
        }
        if (what == 1) {
            return hearsay.notSo(asTold().firstAt, 0) == 0 ? 1 : 0;
        }
        sleepers.findOut(first, second, when);
        int bits = 0;
        for (int p = 0; p < row.people; p++) {
            if (hearsay.notSo(sleepers.times, p * PEOPLE) == 0) {
                bits |= 1 << p;
            }
        }
        return bits;
    }

    public int census(int year, int many) {
        return register.add(year, many);
    }

    public int births(int year, int v) {
        return register.setBirths(year, v);
    }

    public int cannot(int a, int b) {
        if (!register.isCensus(a) || !register.isCensus(b) || a == b) {
            return BAD;
        }
        return register.cannotBoth(a, b) ? 1 : 0;
    }

    public int leave(int what) {
        if (what < 0 || what > 2) {
            return BAD;
        }
        register.findConflicts();
        if (what == 0) {
            return register.pairs();
        }
        int out = register.leastOut();
        return what == 1 ? Integer.bitCount(out) : out;
    }

    // ---- sheets

    public int sheet(int s, int form, int n) {
        if (!Shelf.isPlace(s) || !Shelf.isForm(form) || n > Shelf.ITEMS) {
            return BAD;
        }
        return shelf.layOut(s, form, n);
    }

    public int lose(int s) {
        return Shelf.isPlace(s) ? shelf.takeAway(s) : BAD;
    }

    public int put(int s, int form, int i, int v) {
        if (!Shelf.isPlace(s) || !Shelf.isForm(form)) {
            return BAD;
        }
        int number = shelf.findingAt(s, form, i);
        if (number != 0) {
            return shelf.finding(number);
        }
        shelf.store(s, i, v);
        return 1;
    }

    public int get(int s, int form, int i) {
        if (!Shelf.isPlace(s) || !Shelf.isForm(form)) {
            return Integer.MIN_VALUE;
        }
        int number = shelf.findingAt(s, form, i);
        if (number != 0) {
            shelf.finding(number);
            return Integer.MIN_VALUE;
        }
        return shelf.itemAt(s, i);
    }

    public int copy(int s, int i, int t, int j, int n) {
        if (!Shelf.isPlace(s) || !Shelf.isPlace(t)) {
            return BAD;
        }
        return shelf.copyItems(s, i, t, j, n);
    }

    public int write(int s) {
        if (!Shelf.isPlace(s)) {
            return BAD;
        }
        if (shelf.isLost(s)) {
            return shelf.finding(Shelf.NULL);
        }
        int written = Math.min(shelf.sizes[s], row.people);
        int[] times = asTold().firstAt;
        for (int p = 0; p < written; p++) {
            shelf.store(s, p, times[p]);
        }
        return written;
    }

    public int count(int what) {
        switch (what) {
            case 0:
                return row.people;
            case 1:
                return row.length;
            case 2:
                return Integer.bitCount(row.main);
            case 3:
                return row.pairs();
            case 4:
                return hearsay.size;
            case 5:
                return register.size;
            case 6:
                return register.birthsOf(0, Register.YEARS);
            case 7:
                return asTold().allLost();
            case 8:
                return shelf.latest;
            default:
                return BAD;
        }
    }

    public long digest() {
        long h = 17;
        for (int what = 0; what <= 7; what++) {
            h = 31 * h + count(what);
        }
        h = 31 * h + fault();
        for (int p = 0; p < row.people; p++) {
            for (int what = 0; what <= 4; what++) {
                h = 31 * h + person(p, what);
            }
            h = 31 * h + felt(p, 0);
            h = 31 * h + felt(p, 1);
            h = 31 * h + many(p, 100);
            h = 31 * h + lost(p, LATEST);
            h = 31 * h + round(p);
        }
        h = 31 * h + reached();
        h = 31 * h + last();
        h = 31 * h + twice();
        for (int what = 0; what <= 2; what++) {
            h = 31 * h + begin(what);
        }
        h = 31 * h + passed(50);
        h = 31 * h + doubt(1, NONE);
        h = 31 * h + posts(20);
        h = 31 * h + unlike();
        h = 31 * h + asleep(0);
        h = 31 * h + asleep(1);
        for (int what = 0; what <= 2; what++) {
            h = 31 * h + leave(what);
        }
        return h;
    }

    private boolean isPerson(int p) {
        return p >= 0 && p < row.people;
    }

    private static boolean isTime(int time) {
        return time >= 0 && time <= LATEST;
    }

    private static boolean areLimits(int a, int b, int e) {
        return a >= 1 && a <= b && b <= 9 && e >= 0 && e <= 20;
    }

    private void rowChanged() {
        beginning.known = false;
        squeezeChanged();
    }

    private void squeezeChanged() {
        ran = false;
        sleepers.known = false;
    }

    // A squeeze is run once for all questions about it, until something changes it.
    private Squeeze asTold() {
        if (!ran) {
            told.run(first, second, when, NONE);
            ran = true;
        }
        return told;
    }

    /** The text and the people that it tells of; it is read anew whenever it changes. */
    private static final class Row {
        static final int BYTES = 60;
        static final int FORKS = 3;
        static final int PLAIN = 0, TWIN = 1, COUNTS = 2, SLEEPS = 3;

        final int[] text;
        final int[] kinds;
        final int[] lates;
        final int[] hands;
        // of each one the hands over which a squeeze takes longer
        final int[] slow;
        // of each section that is open while the text is read: whose hand is next, how many are directly in it
        final int[] ahead;
        final int[] direct;
        int depth;
        int length;
        int people;
        int scarves;
        int main;
        int faultPlace;

        Row() {
            text = new int[BYTES];
            kinds = new int[PEOPLE];
            lates = new int[PEOPLE];
            hands = new int[PEOPLE];
            slow = new int[PEOPLE];
            ahead = new int[FORKS + 1];
            direct = new int[FORKS + 1];
            ahead[0] = NONE;
            faultPlace = NONE;
        }

        boolean append(int b) {
            if (length >= BYTES) {
                return false;
            }
            text[length] = b;
            length++;
            readText();
            return true;
        }

        void empty() {
            length = 0;
            readText();
        }

        int pairs() {
            int ends = 0;
            for (int p = 0; p < people; p++) {
                ends += Integer.bitCount(hands[p]);
            }
            return ends / 2;
        }

        private void readText() {
            startReading();
            int place = 0;
            for (int steps = 0; steps < BYTES && place < length && faultPlace == NONE; steps++) {
                place = readNext(place);
            }
            if (faultPlace == NONE && depth > 0) {
                faultPlace = length;
            }
            if (faultPlace != NONE) {
                people = 0;
                main = 0;
            }
        }

        private void startReading() {
            Arrays.fill(hands, 0);
            Arrays.fill(slow, 0);
            depth = 0;
            ahead[0] = NONE;
            direct[0] = 0;
            people = 0;
            scarves = 0;
            main = 0;
            faultPlace = NONE;
        }

        // Each of these answers the place behind what it read; with a fault the place no longer matters.
        private int readNext(int place) {
            int b = text[place];
            if (b == '(') {
                return openFork(place);
            }
            if (b == ')' || b == 'o') {
                return endFork(place, b == 'o');
            }
            return readPerson(place);
        }

        private int openFork(int place) {
            if (depth >= FORKS || direct[depth] == 0) {
                return stopAt(place);
            }
            depth++;
            ahead[depth] = ahead[depth - 1];
            direct[depth] = 0;
            return place + 1;
        }

        private int endFork(int place, boolean ring) {
            if (depth == 0 || direct[depth] < (ring ? 2 : 1)) {
                return stopAt(place);
            }
            if (ring) {
                holdHands(ahead[depth], ahead[depth - 1], false);
            }
            depth--;
            return place + 1;
        }

        private int readPerson(int place) {
            if (people >= PEOPLE) {
                return stopAt(place);
            }
            boolean scarf = text[place] == 's';
            int at = scarf ? place + 1 : place;
            int kind = at < length ? kindOf(text[at]) : NONE;
            if (kind == NONE) {
                return stopAt(at);
            }
            at++;
            int late = at < length ? text[at] - '0' : 0;
            if (late < 1 || late > 9) {
                return stopAt(at);
            }
            addPerson(kind, late, scarf);
            return at + 1;
        }

        private int stopAt(int place) {
            faultPlace = place;
            return place;
        }

        private static int kindOf(int b) {
            switch (b) {
                case 'p':
                    return PLAIN;
                case 't':
                    return TWIN;
                case 'c':
                    return COUNTS;
                case 'd':
                    return SLEEPS;
                default:
                    return NONE;
            }
        }

        private void addPerson(int kind, int late, boolean scarf) {
            int p = people;
            people++;
            kinds[p] = kind;
            lates[p] = late;
            if (scarf) {
                scarves |= 1 << p;
            }
            if (depth == 0) {
                main |= 1 << p;
            }
            if (ahead[depth] != NONE) {
                holdHands(p, ahead[depth], scarf);
            }
            ahead[depth] = p;
            direct[depth]++;
        }

        private void holdHands(int p, int q, boolean longer) {
            hands[p] |= 1 << q;
            hands[q] |= 1 << p;
            if (longer) {
                slow[p] |= 1 << q;
                slow[q] |= 1 << p;
            }
        }
    }

    /** All that was felt or lost in a squeeze, in the order in which it came. */
    private static final class Diary {
        // Far above what 28 pairs of hands can bring in 400 times.
        static final int MOST = 1 << 15;
        static final int LOST_MARK = 1;

        int[] entries;
        int size;

        Diary() {
            entries = new int[64];
            size = 0;
        }

        void makeRoom(int more) {
            int needed = Math.min(size + more, MOST);
            if (needed > entries.length) {
                entries = Arrays.copyOf(entries, Math.max(needed, 2 * entries.length));
            }
        }

        void note(int time, int p, int source, int mark) {
            if (size < entries.length) {
                entries[size] = (time << 11) | (p << 6) | ((source + 1) << 1) | mark;
                size++;
            }
        }

        /** The k-th that one felt; NONE. */
        int findFelt(int p, int k) {
            int left = k;
            for (int i = 0; i < size; i++) {
                if (isOf(entries[i], p, 0)) {
                    if (left == 0) {
                        return entries[i];
                    }
                    left--;
                }
            }
            return NONE;
        }

        int tally(int p, int time, int mark) {
            int sum = 0;
            for (int i = 0; i < size && timeOf(entries[i]) <= time; i++) {
                if (isOf(entries[i], p, mark)) {
                    sum++;
                }
            }
            return sum;
        }

        int tallyAllFelt(int time) {
            int sum = 0;
            for (int i = 0; i < size && timeOf(entries[i]) <= time; i++) {
                if ((entries[i] & LOST_MARK) == 0) {
                    sum++;
                }
            }
            return sum;
        }

        static int timeOf(int entry) {
            return entry >> 11;
        }

        static int sourceOf(int entry) {
            return ((entry >> 1) & 31) - 1;
        }

        private static boolean isOf(int entry, int p, int mark) {
            return ((entry >> 6) & 31) == p && (entry & LOST_MARK) == mark;
        }
    }

    /** A squeeze as it goes through the row. */
    private static final class Squeeze {
        // A squeeze is felt at most 2 * 9 + 3 later than what it was passed for, so a few times at once are enough.
        static final int WHEEL = 32;
        static final int SCARF_TIME = 3;
        // What comes to one at a time, as bits in the order in which it is felt.
        static final int BY_FIRST = 1, BY_SECOND = 2, FROM_SHIFT = 2;
        static final int MOST_AT_ONCE = 64;

        final Row row;
        final Diary diary;
        final int[] due;
        final int[] busyUpTo;
        final int[] feltMany;
        final int[] lostMany;
        final int[] firstAt;
        int sleeper;
        int lastDue;
        int unreached;

        // Trials have no diary: when each felt it first is all that is asked of them, so they end when all have.
        Squeeze(Row row, Diary diary) {
            this.row = row;
            this.diary = diary;
            due = new int[WHEEL * PEOPLE];
            busyUpTo = new int[PEOPLE];
            feltMany = new int[PEOPLE];
            lostMany = new int[PEOPLE];
            firstAt = new int[PEOPLE];
        }

        void run(int first, int second, int when, int asleep) {
            clear();
            sleeper = asleep;
            boolean another = second != NONE && second < row.people;
            if (first < row.people) {
                due[first] |= BY_FIRST;
                lastDue = 0;
            }
            if (another) {
                lastDue = when;
            }
            for (int time = 0; time <= LATEST && time <= lastDue && (diary != null || unreached > 0); time++) {
                int slot = (time % WHEEL) * PEOPLE;
                if (another && time == when) {
                    due[slot + second] |= BY_SECOND;
                }
                if (diary != null) {
                    diary.makeRoom(MOST_AT_ONCE);
                }
                feelAll(time, slot);
            }
        }

        private void clear() {
            Arrays.fill(due, 0);
            Arrays.fill(busyUpTo, 0);
            Arrays.fill(feltMany, 0);
            Arrays.fill(lostMany, 0);
            Arrays.fill(firstAt, NONE);
            lastDue = NONE;
            unreached = row.people;
            if (diary != null) {
                diary.size = 0;
            }
        }

        private void feelAll(int time, int slot) {
            for (int p = 0; p < row.people; p++) {
                int coming = due[slot + p];
                due[slot + p] = 0;
                for (int bit = 0; coming != 0 && bit < PEOPLE + FROM_SHIFT; bit++) {
                    if ((coming & 1) != 0) {
                        feelOne(p, time, bit < FROM_SHIFT ? NONE : bit - FROM_SHIFT);
                    }
                    coming >>= 1;
                }
            }
        }

        private void feelOne(int p, int time, int source) {
            boolean busy = time < busyUpTo[p];
            if (diary != null) {
                diary.note(time, p, source, busy ? Diary.LOST_MARK : 0);
            }
            if (busy) {
                lostMany[p]++;
                return;
            }
            feltMany[p]++;
            if (firstAt[p] == NONE) {
                firstAt[p] = time;
                unreached--;
            }
            int kind = p == sleeper ? Row.SLEEPS : row.kinds[p];
            if (kind == Row.SLEEPS || (kind == Row.COUNTS && feltMany[p] % 2 == 1)) {
                return;
            }
            int late = row.lates[p];
            passOn(p, time + late, source);
            busyUpTo[p] = time + late;
            if (kind == Row.TWIN) {
                passOn(p, time + 2 * late, source);
                busyUpTo[p] = time + 2 * late;
            }
        }

        private void passOn(int p, int time, int source) {
            for (int q = 0; q < row.people; q++) {
                if (q == source || ((row.hands[p] >> q) & 1) == 0) {
                    continue;
                }
                int at = ((row.slow[p] >> q) & 1) == 0 ? time : time + SCARF_TIME;
                if (at <= LATEST) {
                    due[(at % WHEEL) * PEOPLE + q] |= 1 << (p + FROM_SHIFT);
                    lastDue = at > lastDue ? at : lastDue;
                }
            }
        }

        int reachedBits() {
            return feltAtLeast(1);
        }

        int twiceBits() {
            return feltAtLeast(2);
        }

        private int feltAtLeast(int times) {
            int bits = 0;
            for (int p = 0; p < row.people; p++) {
                if (feltMany[p] >= times) {
                    bits |= 1 << p;
                }
            }
            return bits;
        }

        int lastTime() {
            int latest = NONE;
            for (int p = 0; p < row.people; p++) {
                latest = Math.max(latest, firstAt[p]);
            }
            return latest;
        }

        int allLost() {
            int sum = 0;
            for (int p = 0; p < row.people; p++) {
                sum += lostMany[p];
            }
            return sum;
        }

        int timeOfFelt(int p, int k) {
            int entry = diary == null ? NONE : diary.findFelt(p, k);
            return entry == NONE ? NONE : Diary.timeOf(entry);
        }

        int sourceOfFelt(int p, int k) {
            int entry = diary == null ? NONE : diary.findFelt(p, k);
            return entry == NONE ? NONE : Diary.sourceOf(entry);
        }

        int feltUpTo(int p, int time) {
            return diary == null ? 0 : diary.tally(p, time, 0);
        }

        int lostUpTo(int p, int time) {
            return diary == null ? 0 : diary.tally(p, time, Diary.LOST_MARK);
        }

        int allFeltUpTo(int time) {
            return diary == null ? 0 : diary.tallyAllFelt(time);
        }
    }

    /** With whom to begin; found once for each text, as it hangs on nothing else. */
    private static final class Beginning {
        final Row row;
        final Squeeze trial;
        int who;
        int reaches;
        int lastTime;
        boolean known;

        Beginning(Row row, Squeeze trial) {
            this.row = row;
            this.trial = trial;
            known = false;
        }

        void findOut() {
            if (known) {
                return;
            }
            who = NONE;
            reaches = 0;
            lastTime = NONE;
            for (int p = 0; p < row.people; p++) {
                trial.run(p, NONE, 0, NONE);
                compare(p, Integer.bitCount(trial.reachedBits()), trial.lastTime());
            }
            known = true;
        }

        private void compare(int p, int many, int latest) {
            if (many > reaches || (many == reaches && latest < lastTime)) {
                who = p;
                reaches = many;
                lastTime = latest;
            }
        }
    }

    /** When each would have felt it first, if one more slept: a line for each who might have. */
    private static final class Sleepers {
        final Row row;
        final Squeeze trial;
        final int[] times;
        boolean known;

        Sleepers(Row row, Squeeze trial) {
            this.row = row;
            this.trial = trial;
            times = new int[PEOPLE * PEOPLE];
            known = false;
        }

        void findOut(int first, int second, int when) {
            if (known) {
                return;
            }
            for (int p = 0; p < row.people; p++) {
                trial.run(first, second, when, p);
                System.arraycopy(trial.firstAt, 0, times, p * PEOPLE, PEOPLE);
            }
            known = true;
        }
    }

    /** The posts on the main section, and how little doubt they leave. */
    private static final class Posting {
        final int[] who;
        final int[] at;
        // of each number of posts to come, and each post: the least doubt from it to the last one
        final int[] least;
        int size;
        int shortest;
        int longest;
        int slip;

        Posting() {
            who = new int[PEOPLE];
            at = new int[PEOPLE];
            least = new int[(MOST_POSTS + 1) * PEOPLE];
            size = 0;
            shortest = 1;
            longest = 9;
            slip = 0;
        }

        static int fewest(int time, int b, int e) {
            int less = Math.max(time - e, 0);
            return b < 1 ? 0 : (less + b - 1) / b;
        }

        static int most(int time, int a, int e) {
            return a < 1 ? 0 : (time + e) / a;
        }

        int limitsAsOne() {
            return 100 * shortest + 10 * longest + Math.min(slip, 9);
        }

        void setLimits(int a, int b, int e) {
            shortest = a;
            longest = b;
            slip = e;
        }

        void gather(Row row, Squeeze squeeze) {
            size = 0;
            for (int p = 0; p < row.people; p++) {
                if (((row.main >> p) & 1) != 0 && squeeze.firstAt[p] != NONE) {
                    who[size] = p;
                    at[size] = squeeze.firstAt[p];
                    size++;
                }
            }
        }

        boolean hasRoomFor(int n) {
            return n == 0 ? size > 0 : size - 2 >= n;
        }

        // Worked from the last post back, so that the least row can be read from the first one on.
        void work(int n) {
            for (int from = 0; from < size; from++) {
                least[from] = gap(from, size - 1);
            }
            for (int more = 1; more <= n && hasRoomFor(more); more++) {
                for (int from = 0; from + more < size - 1; from++) {
                    int next = nextPost(from, more);
                    least[more * PEOPLE + from] = throughNext(from, next, more);
                }
            }
        }

        int leastDoubt(int n) {
            return least[n * PEOPLE];
        }

        int chosen(int n, int i) {
            int post = 0;
            for (int step = 0; step <= i && step < n; step++) {
                post = nextPost(post, n - step);
            }
            return who[post];
        }

        private int nextPost(int from, int more) {
            int best = from + 1;
            for (int next = from + 2; next + more - 1 < size - 1; next++) {
                if (throughNext(from, next, more) < throughNext(from, best, more)) {
                    best = next;
                }
            }
            return best;
        }

        private int throughNext(int from, int next, int more) {
            return gap(from, next) + least[(more - 1) * PEOPLE + next];
        }

        private int gap(int one, int other) {
            if (one == other) {
                return 0;
            }
            int time = Math.abs(at[one] - at[other]);
            return Math.max(most(time, shortest, slip) - fewest(time, longest, slip), 0);
        }
    }

    /** Who is said to have felt it first when. */
    private static final class Hearsay {
        static final int MOST = 12;

        final int[] who;
        final int[] times;
        int size;

        Hearsay() {
            who = new int[MOST];
            times = new int[MOST];
            size = 0;
        }

        int take(int p, int time) {
            if (p < 0 || p >= PEOPLE || time < NONE || time > LATEST) {
                return BAD;
            }
            if (size >= MOST) {
                return FULL;
            }
            who[size] = p;
            times[size] = time;
            size++;
            return size;
        }

        /** How many are not so, by a line of twenty times that begins at a place of a row. */
        int notSo(int[] firstAt, int line) {
            int sum = 0;
            for (int i = 0; i < size; i++) {
                int place = line + who[i];
                if (place >= firstAt.length || firstAt[place] != times[i]) {
                    sum++;
                }
            }
            return sum;
        }
    }

    /** The censuses and the births of the years. */
    private static final class Register {
        static final int YEARS = 100;
        static final int CENSUSES = 8;
        static final int MOST_COUNTED = 9999;
        static final int MOST_BORN = 999;

        final int[] years;
        final int[] counted;
        final int[] born;
        // of each census those that cannot be beside it, as bits
        final int[] conflicts;
        int size;

        Register() {
            years = new int[CENSUSES];
            counted = new int[CENSUSES];
            born = new int[YEARS];
            conflicts = new int[CENSUSES];
            size = 0;
        }

        int add(int year, int many) {
            if (!isYear(year) || many < 0 || many > MOST_COUNTED) {
                return BAD;
            }
            if (size >= CENSUSES) {
                return FULL;
            }
            years[size] = year;
            counted[size] = many;
            size++;
            return size - 1;
        }

        int setBirths(int year, int v) {
            if (!isYear(year) || v < 0 || v > MOST_BORN) {
                return BAD;
            }
            int was = born[year];
            born[year] = v;
            return was;
        }

        private static boolean isYear(int year) {
            return year >= 0 && year < YEARS;
        }

        boolean isCensus(int a) {
            return a >= 0 && a < size;
        }

        int birthsOf(int start, int end) {
            int sum = 0;
            for (int year = start; year < end && year < YEARS; year++) {
                sum += born[year];
            }
            return sum;
        }

        boolean cannotBoth(int a, int b) {
            if (years[a] == years[b]) {
                return counted[a] != counted[b];
            }
            int earlier = years[a] < years[b] ? a : b;
            int later = earlier == a ? b : a;
            return counted[later] > counted[earlier] + birthsOf(years[earlier], years[later]);
        }

        void findConflicts() {
            Arrays.fill(conflicts, 0);
            for (int a = 0; a < size; a++) {
                for (int b = 0; b < a; b++) {
                    if (cannotBoth(a, b)) {
                        conflicts[a] |= 1 << b;
                        conflicts[b] |= 1 << a;
                    }
                }
            }
        }

        int pairs() {
            int ends = 0;
            for (int a = 0; a < size; a++) {
                ends += Integer.bitCount(conflicts[a]);
            }
            return ends / 2;
        }

        int leastOut() {
            // the least as bits come first, so that of like ones the first stays
            int best = (1 << size) - 1;
            for (int out = 0; out < 1 << size; out++) {
                if (Integer.bitCount(out) < Integer.bitCount(best) && restCanBe(out)) {
                    best = out;
                }
            }
            return best;
        }

        private boolean restCanBe(int out) {
            for (int a = 0; a < size; a++) {
                if (((out >> a) & 1) == 0 && (conflicts[a] & ~out) != 0) {
                    return false;
                }
            }
            return true;
        }
    }

    /** The sheets; their rows are made once, as long as any may be, and used again. */
    private static final class Shelf {
        static final int SHEETS = 4;
        static final int ITEMS = 60;
        static final int NULL = 1, INDEX = 2, CAST = 3, STORE = 4, SIZE = 5;
        static final int BYTES = 0, SHORTS = 1, INTS = 2;

        final int[] items;
        final int[] forms;
        final int[] sizes;
        int latest;

        Shelf() {
            items = new int[SHEETS * ITEMS];
            forms = new int[SHEETS];
            sizes = new int[SHEETS];
            latest = 0;
            Arrays.fill(forms, NONE);
        }

        static boolean isPlace(int s) {
            return s >= 0 && s < SHEETS;
        }

        static boolean isForm(int form) {
            return form >= BYTES && form <= INTS;
        }

        boolean isLost(int s) {
            return forms[s] == NONE;
        }

        int finding(int number) {
            latest = number;
            return -10 - number;
        }

        /** What stands against an item as of a form: the number of a finding, or 0. */
        int findingAt(int s, int form, int i) {
            if (isLost(s)) {
                return NULL;
            }
            if (forms[s] != form) {
                return CAST;
            }
            return i < 0 || i >= sizes[s] ? INDEX : 0;
        }

        int layOut(int s, int form, int n) {
            if (n < 0) {
                return finding(SIZE);
            }
            forms[s] = form;
            sizes[s] = n;
            for (int i = 0; i < n; i++) {
                store(s, i, 0);
            }
            return n;
        }

        int takeAway(int s) {
            if (isLost(s)) {
                return finding(NULL);
            }
            forms[s] = NONE;
            return sizes[s];
        }

        int itemAt(int s, int i) {
            return items[s * ITEMS + i];
        }

        void store(int s, int i, int v) {
            int kept = v;
            if (forms[s] == BYTES) {
                kept = (byte) v;
            } else if (forms[s] == SHORTS) {
                kept = (short) v;
            }
            items[s * ITEMS + i] = kept;
        }

        int copyItems(int s, int i, int t, int j, int n) {
            if (isLost(s) || isLost(t)) {
                return finding(NULL);
            }
            if (forms[s] != forms[t]) {
                return finding(STORE);
            }
            if (!hasItems(s, i, n) || !hasItems(t, j, n)) {
                return finding(INDEX);
            }
            System.arraycopy(items, s * ITEMS + i, items, t * ITEMS + j, n);
            return 1;
        }

        private boolean hasItems(int s, int i, int n) {
            return i >= 0 && n >= 0 && n <= sizes[s] && i <= sizes[s] - n;
        }
    }
}
