import java.util.Arrays;

/** Two balls that mind an engine: mills, how they stand near rest, how they run far from it. */
public final class BallMinder {
    public static final int UNKNOWN = -1, OUTSIDE = -2, STATE = -3, FULL = -4, NONE = -9;
    public static final long LOST = Long.MIN_VALUE;

    private static final int NULL = 1, CAST = 2, INDEX = 3, SIZE = 4;
    private static final int FAULTS_BELOW = -10, DRAWINGS_BELOW = -100;

    private static final int PLAIN = 0, OILED = 1, STICKY = 2;
    private static final int WHEEL = 0, BRAKE = 1, BALLS = 2, OIL = 3, SPRING = 4;
    private static final int PULL = 5, SECOND = 6, LATE = 7, STICK = 8, KIND = 9;
    private static final int NUMBERS = 9;
    /** The numbers 0 .. 6 stand in the row of sums; LATE and STICK do not. */
    private static final int LAST_NEAR = SECOND;
    private static final char[] LETTERS = {'w', 'r', 'b', 'o', 'k', 'g', 'i', 'd', 's'};
    private static final int[] LEAST = {1, 0, 1, 0, 0, 1, 0, 0, 1};
    private static final int[] GREATEST = {99, 20, 99, 99, 99, 99, 20, 3, 50};
    private static final int[] AT_FIRST = {10, 1, 1, 5, 5, 10, 0, 0, 5};

    private static final int MILLS = 8, SHEETS = 4, CELLS = 60, LAST_LANE = 2;
    private static final int BYTES = 0, SHORTS = 1;
    private static final int LEAST_WATCHED = 2, MOST_WATCHED = 30;

    private static final int STILL = 2, RINGS = 1, HUNTS = 0;
    private static final int MOST_MORE = 99, MOST_WEAR = 9, LAST_YEAR = 60, LAST_SUM = 4;

    private static final int LAST_BEAT = 999, RIGHT_BEAT = 100, WIDEST = 100, HALF_OPEN = 50;
    private static final int MOST_MISSED = 9999, TICKS = 300, AHEAD = 3;
    private static final int HALF_LOAD = 50, MOST_LOAD = 100, MOST_LOAD_OF_TWO = 200;
    private static final int FARTHEST = 99, QUICKEST = 40;
    private static final int REST = 0, RING = 1, NEITHER = 2;
    private static final int LAST_OF_FAR = 4, LAST_OF_TWO = 6, LAST_OF_AFTER = 2;
    /** A power of two, so that a mask picks the bucket, of negative sums too. */
    private static final int BUCKETS = 256;
    private static final int NOT_YET = -1;

    private final Plain[] mills = new Plain[MILLS];
    private final Sheet[] sheets = new Sheet[SHEETS];
    private final int[] watched = new int[MOST_WATCHED];
    private final Drawing drawing = new Drawing();
    private final Sums sums = new Sums();
    private final Shaft shaft = new Shaft();
    private final Found found = new Found();
    private final Trace left = new Trace();
    private int millCount;
    private int watchedCount;
    private int latestFault;

    public BallMinder() {
        for (int k = 0; k < SHEETS; k++) {
            sheets[k] = new Sheet();
        }
    }

    // ---- 1 mills

    public int mill(int kind, int sheet, int lane, int i, int n) {
        latestFault = 0;
        Sheet from = sheetOf(sheet);
        if (from == null) {
            return UNKNOWN;
        }
        if (!within(kind, PLAIN, STICKY) || !within(lane, 0, LAST_LANE)) {
            return OUTSIDE;
        }
        int taking = from.faultOfTaking(lane, i, n);
        if (taking != 0) {
            return faulted(taking);
        }
        int firstFault = drawing.read(from, i, n);
        if (firstFault != NOT_YET) {
            return DRAWINGS_BELOW - firstFault;
        }
        if (millCount >= MILLS) {
            return FULL;
        }
        mills[millCount] = madeMill(kind, millCount, drawing.numbers);
        millCount++;
        return millCount - 1;
    }

    public int ofMill(int x, int what) {
        Plain one = millOf(x);
        if (one == null || !within(what, 0, KIND)) {
            return UNKNOWN;
        }
        return what == KIND ? one.kind() : one.numbers[what];
    }

    public int turn(int x, int what, int v) {
        Plain one = millOf(x);
        if (one == null || !within(what, 0, NUMBERS - 1)) {
            return UNKNOWN;
        }
        if (!within(v, LEAST[what], GREATEST[what])) {
            return OUTSIDE;
        }
        int was = one.numbers[what];
        one.numbers[what] = v;
        return was;
    }

    // ---- 2 near rest

    public long row(int x, int k) {
        Plain one = millOf(x);
        if (one == null || !within(k, 0, LAST_SUM)) {
            return LOST;
        }
        sums.draw(one.numbers);
        return sums.a[k];
    }

    public long margin(int x) {
        Plain one = millOf(x);
        return one == null ? LOST : marginOf(one);
    }

    public int near(int x) {
        Plain one = millOf(x);
        return one == null ? UNKNOWN : standingOf(one);
    }

    public int line(int x, int number, int what) {
        Plain one = millOf(x);
        if (one == null || !within(number, 0, LAST_NEAR)) {
            return UNKNOWN;
        }
        if (!within(what, 0, Found.HOW_MANY)) {
            return OUTSIDE;
        }
        int kept = one.numbers[number];
        found.clear();
        for (int v = LEAST[number]; v <= GREATEST[number]; v++) {
            one.numbers[number] = v;
            if (standingOf(one) == STILL) {
                found.take(v);
            }
        }
        one.numbers[number] = kept;
        return found.told(what);
    }

    public int better(int x, int number) {
        Plain one = millOf(x);
        if (one == null || !within(number, 0, LAST_NEAR)) {
            return UNKNOWN;
        }
        int kept = one.numbers[number];
        if (kept >= GREATEST[number]) {
            return STATE;
        }
        long now = marginOf(one);
        one.numbers[number] = kept + 1;
        long then = marginOf(one);
        one.numbers[number] = kept;
        return Long.compare(then, now);
    }

    public long off(int x, int l, int which) {
        Plain one = millOf(x);
        if (one == null || !within(l, -MOST_MORE, MOST_MORE) || !within(which, 0, 1)) {
            return LOST;
        }
        int[] n = one.numbers;
        long upper = n[SECOND] == 0 ? -(long) l * n[SPRING] : 0;
        long lower = (long) n[BRAKE] * n[SPRING] + n[PULL];
        return inLeastTerms(upper, lower, which);
    }

    public int years(int x, int number, int c) {
        Plain one = millOf(x);
        if (one == null || !within(number, 0, LAST_NEAR)) {
            return UNKNOWN;
        }
        if (!within(c, -MOST_WEAR, MOST_WEAR)) {
            return OUTSIDE;
        }
        int kept = one.numbers[number];
        int first = NONE;
        for (int year = 1; year <= LAST_YEAR && first == NONE; year++) {
            one.numbers[number] = bounded(kept + c * year, LEAST[number], GREATEST[number]);
            if (standingOf(one) != STILL) {
                first = year;
            }
        }
        one.numbers[number] = kept;
        return first;
    }

    // ---- 3 far

    public int far(int x, int v, int u, int load, int what) {
        Plain one = millOf(x);
        if (one == null) {
            return UNKNOWN;
        }
        if (!canRun(v, u, load) || !within(what, 0, LAST_OF_FAR)) {
            return OUTSIDE;
        }
        shaft.begin(one, null, v, u, load);
        shaft.runTillRound();
        return shaft.told(what);
    }

    public int after(int x, int v, int u, int load, int t, int what) {
        Plain one = millOf(x);
        if (one == null) {
            return UNKNOWN;
        }
        if (!canRun(v, u, load) || !within(t, 0, TICKS) || !within(what, 0, LAST_OF_AFTER)) {
            return OUTSIDE;
        }
        shaft.begin(one, null, v, u, load);
        shaft.runTicks(t);
        if (what == 0) {
            return shaft.beatAt(t);
        }
        return what == 1 ? shaft.one.valves[t] : shaft.one.missed[t];
    }

    public int reach(int x) {
        Plain one = millOf(x);
        if (one == null) {
            return UNKNOWN;
        }
        int farthest = NONE;
        for (int n = 0; n <= FARTHEST; n++) {
            shaft.begin(one, null, RIGHT_BEAT + n, HALF_OPEN, HALF_LOAD);
            shaft.runTillRound();
            if (shaft.ending() != REST) {
                break;
            }
            farthest = n;
        }
        return farthest;
    }

    public int two(int x, int y, int v, int load, int what) {
        Plain one = millOf(x);
        Plain other = millOf(y);
        if (one == null || other == null) {
            return UNKNOWN;
        }
        if (!within(v, 0, LAST_BEAT) || !within(load, 0, MOST_LOAD_OF_TWO)
                || !within(what, 0, LAST_OF_TWO) || x == y) {
            return OUTSIDE;
        }
        shaft.begin(one, other, v, HALF_OPEN, load);
        shaft.runTillRound();
        return shaft.told(what);
    }

    public long share(int x, int y, int which) {
        Plain one = millOf(x);
        Plain other = millOf(y);
        if (one == null || other == null || x == y || !within(which, 0, 1)) {
            return LOST;
        }
        if (!one.hasRestOfItsOwn() || !other.hasRestOfItsOwn()) {
            return LOST;
        }
        // G/K of both, brought to the common lower number K K', which the part of the sum loses again
        long mine = (long) one.numbers[PULL] * other.numbers[SPRING];
        long its = (long) other.numbers[PULL] * one.numbers[SPRING];
        return inLeastTerms(mine, mine + its, which);
    }

    public int best(int set, int load) {
        if ((set >>> millCount) != 0 || !within(load, 0, MOST_LOAD)) {
            return OUTSIDE;
        }
        int bestOne = NONE;
        int bestLowest = 0;
        for (int k = 0; k < millCount; k++) {
            if (((set >>> k) & 1) == 0) {
                continue;
            }
            shaft.begin(mills[k], null, RIGHT_BEAT, HALF_OPEN, load);
            shaft.runTillRound();
            if (bestOne == NONE || shaft.lowest > bestLowest) {
                bestOne = k;
                bestLowest = shaft.lowest;
            }
        }
        return bestOne;
    }

    // ---- 4 watched

    public int watch(int sheet, int lane, int i, int n) {
        latestFault = 0;
        Sheet from = sheetOf(sheet);
        if (from == null) {
            return UNKNOWN;
        }
        if (!within(lane, 0, LAST_LANE)) {
            return OUTSIDE;
        }
        int taking = from.faultOfTaking(lane, i, n);
        if (taking != 0) {
            return faulted(taking);
        }
        if (!within(n, LEAST_WATCHED, MOST_WATCHED) || !areBeats(from, i, n)) {
            return OUTSIDE;
        }
        for (int k = 0; k < n; k++) {
            watched[k] = from.at(i + k);
        }
        watchedCount = n;
        return n;
    }

    public int fits(int x, int number, int load, int what) {
        Plain one = millOf(x);
        if (one == null || !within(number, 0, NUMBERS - 1)) {
            return UNKNOWN;
        }
        if (!within(load, 0, MOST_LOAD) || !within(what, 0, Found.HOW_MANY)) {
            return OUTSIDE;
        }
        if (watchedCount == 0) {
            return STATE;
        }
        int kept = one.numbers[number];
        found.clear();
        for (int v = LEAST[number]; v <= GREATEST[number]; v++) {
            one.numbers[number] = v;
            if (runsAsWatched(one, load)) {
                found.take(v);
            }
        }
        one.numbers[number] = kept;
        return found.told(what);
    }

    // ---- 5 sheets, parts

    public int sheet(int k, int lane, int n) {
        latestFault = 0;
        Sheet one = sheetOf(k);
        if (one == null) {
            return UNKNOWN;
        }
        if (!within(lane, 0, LAST_LANE) || n > CELLS) {
            return OUTSIDE;
        }
        if (n < 0) {
            return faulted(SIZE);
        }
        one.renew(lane, n);
        return 1;
    }

    public int lose(int k) {
        Sheet one = sheetOf(k);
        if (one == null) {
            return UNKNOWN;
        }
        boolean had = one.there;
        one.there = false;
        return had ? 1 : 0;
    }

    public int put(int k, int i, int v) {
        latestFault = 0;
        Sheet one = sheetOf(k);
        if (one == null) {
            return UNKNOWN;
        }
        if (!one.there) {
            return faulted(NULL);
        }
        if (!one.hasCell(i)) {
            return faulted(INDEX);
        }
        one.set(i, v);
        return 1;
    }

    public long cell(int k, int i, int lane) {
        latestFault = 0;
        Sheet one = sheetOf(k);
        if (one == null || !within(lane, 0, LAST_LANE)) {
            return LOST;
        }
        int taking = one.faultOfTakingAs(lane);
        if (taking == 0 && !one.hasCell(i)) {
            taking = INDEX;
        }
        if (taking != 0) {
            latestFault = taking;
            return LOST;
        }
        return one.at(i);
    }

    public int copy(int k, int i, int other, int j, int n) {
        latestFault = 0;
        Sheet from = sheetOf(k);
        Sheet to = sheetOf(other);
        if (from == null || to == null) {
            return UNKNOWN;
        }
        if (!from.there || !to.there) {
            return faulted(NULL);
        }
        if (from.lane != to.lane) {
            return faulted(CAST);
        }
        if (!from.spans(i, n) || !to.spans(j, n)) {
            return faulted(INDEX);
        }
        System.arraycopy(from.cells, i, to.cells, j, n);
        return n;
    }

    public int tell(int x) {
        Plain one = millOf(x);
        return one == null ? UNKNOWN : one.telling(left);
    }

    public int ring(int x) {
        Plain one = millOf(x);
        return one == null ? UNKNOWN : one.rung(left);
    }

    public int as(int x, int kind) {
        latestFault = 0;
        Plain one = millOf(x);
        if (one == null) {
            return UNKNOWN;
        }
        if (!within(kind, PLAIN, STICKY)) {
            return OUTSIDE;
        }
        // each kind is one of all kinds below it
        return one.kind() >= kind ? 1 : faulted(CAST);
    }

    public int trace() {
        return left.value;
    }

    public int fault() {
        return latestFault;
    }

    public int many(int what) {
        if (!within(what, 0, 1)) {
            return OUTSIDE;
        }
        return what == 0 ? millCount : watchedCount;
    }

    // ---- what the calls share

    private static boolean within(int v, int least, int greatest) {
        return v >= least && v <= greatest;
    }

    private static int bounded(int v, int least, int greatest) {
        if (v < least) {
            return least;
        }
        return v > greatest ? greatest : v;
    }

    private static int quotient(int upper, int lower) {
        return lower == 0 ? 0 : upper / lower;
    }

    private static long inLeastTerms(long upper, long lower, int which) {
        long common = greatestCommon(Math.abs(upper), lower);
        if (common <= 0) {
            return LOST;
        }
        return (which == 0 ? upper : lower) / common;
    }

    /** Of two numbers from 0 on; the steps of Euclid halve them, so that 128 are more than enough. */
    private static long greatestCommon(long a, long b) {
        for (int step = 0; step < 128 && b != 0; step++) {
            long over = a % b;
            a = b;
            b = over;
        }
        return a;
    }

    private static Plain madeMill(int kind, int number, int[] numbers) {
        if (kind == STICKY) {
            return new Sticky(number, numbers);
        }
        return kind == OILED ? new Oiled(number, numbers) : new Plain(number, numbers);
    }

    private static boolean canRun(int v, int u, int load) {
        return within(v, 0, LAST_BEAT) && within(u, 0, WIDEST) && within(load, 0, MOST_LOAD);
    }

    private static boolean areBeats(Sheet from, int i, int n) {
        for (int k = 0; k < n; k++) {
            if (!within(from.at(i + k), 0, LAST_BEAT)) {
                return false;
            }
        }
        return true;
    }

    private Plain millOf(int x) {
        return within(x, 0, millCount - 1) ? mills[x] : null;
    }

    private Sheet sheetOf(int k) {
        return within(k, 0, SHEETS - 1) ? sheets[k] : null;
    }

    private int faulted(int fault) {
        latestFault = fault;
        return FAULTS_BELOW - fault;
    }

    private long marginOf(Plain one) {
        sums.draw(one.numbers);
        return sums.clearance();
    }

    private int standingOf(Plain one) {
        sums.draw(one.numbers);
        return sums.standing();
    }

    private boolean runsAsWatched(Plain one, int load) {
        shaft.begin(one, null, watched[0], HALF_OPEN, load);
        for (int t = 1; t < watchedCount; t++) {
            shaft.tick(t - 1);
            if (shaft.beatAt(t) != watched[t]) {
                return false;
            }
        }
        return true;
    }

    /** What the telling bodies leave behind, in their order. */
    private static final class Trace {
        private int value;

        void leave(int body) {
            value = 31 * value + body;
        }
    }

    /** The least, the greatest and how many of some numbers, which come in rising order. */
    private static final class Found {
        static final int THE_LEAST = 0, THE_GREATEST = 1, HOW_MANY = 2;
        private int least;
        private int greatest;
        private int count;

        void clear() {
            count = 0;
        }

        void take(int v) {
            if (count == 0) {
                least = v;
            }
            greatest = v;
            count++;
        }

        int told(int what) {
            if (what == HOW_MANY) {
                return count;
            }
            if (count == 0) {
                return NONE;
            }
            return what == THE_LEAST ? least : greatest;
        }
    }

    /** A mill whose valve follows plainly; the kinds below it change how the valve moves. */
    private static class Plain {
        final int number;
        final int[] numbers;

        Plain(int number, int[] numbers) {
            this.number = number;
            this.numbers = numbers.clone();
        }

        int kind() {
            return PLAIN;
        }

        int telling(Trace trace) {
            return plainTelling(trace);
        }

        /** Apart from telling(), so that a STICKY one comes to it past the OILED body. */
        final int plainTelling(Trace trace) {
            trace.leave(1);
            return numbers[WHEEL];
        }

        int rung(Trace trace) {
            trace.leave(4);
            return number;
        }

        int valveBehind(int valve, int wanted) {
            return wanted;
        }

        final int wanted(int felt, int missed) {
            int pulled = numbers[PULL] * (felt - RIGHT_BEAT) + numbers[SECOND] * missed / 10;
            return bounded(HALF_OPEN - pulled / 10, 0, WIDEST);
        }

        final int missedBehind(int felt, int missed) {
            if (numbers[SECOND] == 0) {
                return missed;
            }
            return bounded(missed + felt - RIGHT_BEAT, -MOST_MISSED, MOST_MISSED);
        }

        final boolean hasRestOfItsOwn() {
            return numbers[SPRING] != 0 && numbers[SECOND] == 0;
        }
    }

    private static class Oiled extends Plain {
        Oiled(int number, int[] numbers) {
            super(number, numbers);
        }

        int kind() {
            return OILED;
        }

        int telling(Trace trace) {
            trace.leave(2);
            return super.telling(trace) + 100;
        }

        int valveBehind(int valve, int wanted) {
            int most = Math.max(1, quotient(QUICKEST, numbers[OIL] + 1));
            return valve + bounded(wanted - valve, -most, most);
        }
    }

    private static final class Sticky extends Oiled {
        Sticky(int number, int[] numbers) {
            super(number, numbers);
        }

        int kind() {
            return STICKY;
        }

        int telling(Trace trace) {
            trace.leave(3);
            return super.telling(trace) + plainTelling(trace);
        }

        int rung(Trace trace) {
            trace.leave(5);
            return 50;
        }

        int valveBehind(int valve, int wanted) {
            if (Math.abs(wanted - valve) < numbers[STICK]) {
                return valve;
            }
            return super.valveBehind(valve, wanted);
        }
    }

    /** A row of a lane, or nothing. The cells stay and are used again for each new row. */
    private static final class Sheet {
        private final int[] cells = new int[CELLS];
        private boolean there;
        private int lane;
        private int length;

        void renew(int newLane, int newLength) {
            there = true;
            lane = newLane;
            length = newLength;
            Arrays.fill(cells, 0);
        }

        boolean hasCell(int i) {
            return within(i, 0, length - 1);
        }

        boolean spans(int i, int n) {
            return n >= 0 && within(i, 0, length) && n <= length - i;
        }

        /** Nothing can be taken as a row of any lane, so that CAST comes ahead of NULL only where there is a row. */
        int faultOfTakingAs(int asLane) {
            if (!there) {
                return NULL;
            }
            return lane == asLane ? 0 : CAST;
        }

        int faultOfTaking(int asLane, int i, int n) {
            int fault = faultOfTakingAs(asLane);
            if (fault != 0) {
                return fault;
            }
            if (n < 0) {
                return SIZE;
            }
            return spans(i, n) ? 0 : INDEX;
        }

        int at(int i) {
            return hasCell(i) ? cells[i] : 0;
        }

        void set(int i, int v) {
            if (hasCell(i)) {
                cells[i] = cut(v);
            }
        }

        private int cut(int v) {
            if (lane == BYTES) {
                return (byte) v;
            }
            return lane == SHORTS ? (short) v : v;
        }
    }

    /** Reads the numbers of a mill from a text. */
    private static final class Drawing {
        private final int[] numbers = new int[NUMBERS];
        private final boolean[] drawn = new boolean[NUMBERS];
        private Sheet text;
        private int from;
        private int length;

        /** The first fault's place, or NOT_YET, if there is none: then numbers holds what is drawn. */
        int read(Sheet sheet, int start, int n) {
            begin(sheet, start, n);
            int at = 0;
            for (int item = 1; item <= NUMBERS; item++) {
                int which = letterAt(at);
                if (which == NOT_YET || drawn[which]) {
                    return at;
                }
                at++;
                int digits = digitsFrom(at);
                int v = numberFrom(at, digits);
                if (digits == 0 || !within(v, LEAST[which], GREATEST[which])) {
                    return at;
                }
                numbers[which] = v;
                drawn[which] = true;
                at += digits;
                if (at >= length) {
                    return NOT_YET;
                }
                // behind the ninth item no letter is left, so that no ; goes on
                if (codeAt(at) != ';' || item == NUMBERS) {
                    return at;
                }
                at++;
            }
            return at;
        }

        private void begin(Sheet sheet, int start, int n) {
            text = sheet;
            from = start;
            length = n;
            for (int k = 0; k < NUMBERS; k++) {
                numbers[k] = AT_FIRST[k];
                drawn[k] = false;
            }
        }

        private int codeAt(int at) {
            return at < length ? text.at(from + at) : NOT_YET;
        }

        private int letterAt(int at) {
            int code = codeAt(at);
            for (int k = 0; k < NUMBERS; k++) {
                if (LETTERS[k] == code) {
                    return k;
                }
            }
            return NOT_YET;
        }

        private int digitsFrom(int at) {
            if (!within(codeAt(at), '0', '9')) {
                return 0;
            }
            return within(codeAt(at + 1), '0', '9') ? 2 : 1;
        }

        private int numberFrom(int at, int digits) {
            int v = 0;
            for (int k = 0; k < digits; k++) {
                v = 10 * v + codeAt(at + k) - '0';
            }
            return v;
        }
    }

    /** The row of sums of a mill near rest. */
    private static final class Sums {
        private final long[] a = new long[LAST_SUM + 1];
        private int greatest;

        void draw(int[] n) {
            long w = n[WHEEL];
            long r = n[BRAKE];
            boolean second = n[SECOND] != 0;
            // SECOND moves the whole row up by one and comes in below it
            int low = second ? 1 : 0;
            a[LAST_SUM] = 0;
            a[0] = n[SECOND];
            a[low] = r * n[SPRING] + n[PULL];
            a[low + 1] = w * n[SPRING] + r * n[OIL];
            a[low + 2] = w * n[OIL] + r * n[BALLS];
            a[low + 3] = w * n[BALLS];
            greatest = low + 3;
        }

        long clearance() {
            if (greatest < LAST_SUM) {
                return a[2] * a[1] - a[3] * a[0];
            }
            return a[3] * a[2] * a[1] - a[4] * a[1] * a[1] - a[3] * a[3] * a[0];
        }

        int standing() {
            for (int k = 0; k <= greatest; k++) {
                if (a[k] <= 0) {
                    return HUNTS;
                }
            }
            long clearance = clearance();
            if (clearance == 0) {
                return RINGS;
            }
            return clearance > 0 ? STILL : HUNTS;
        }
    }

    /** A mill's valve and what it missed, tick by tick; without a mill it adds nothing to the shaft. */
    private static final class Gate {
        private final int[] valves = new int[TICKS + 1];
        private final int[] missed = new int[TICKS + 1];
        private Plain mill;

        void begin(Plain one, int valve) {
            mill = one;
            valves[0] = one == null ? 0 : valve;
            missed[0] = 0;
        }

        int number(int which) {
            return mill == null ? 0 : mill.numbers[which];
        }

        /** Tick t becomes tick t + 1. */
        void tick(int t, int felt) {
            if (mill == null) {
                valves[t + 1] = 0;
                missed[t + 1] = 0;
                return;
            }
            valves[t + 1] = mill.valveBehind(valves[t], mill.wanted(felt, missed[t]));
            missed[t + 1] = mill.missedBehind(felt, missed[t]);
        }

        boolean isAlike(int s, int t) {
            return valves[s] == valves[t] && missed[s] == missed[t];
        }
    }

    /** One beat with one or two mills on it. */
    private static final class Shaft {
        /** Tick t stands at AHEAD + t: the beats ahead of tick 0 are felt, too. */
        private final int[] beats = new int[AHEAD + TICKS + 1];
        private final Gate one = new Gate();
        private final Gate other = new Gate();
        /** The latest tick of each bucket, and ahead of each tick the one of its bucket. */
        private final int[] latest = new int[BUCKETS];
        private final int[] earlier = new int[TICKS + 1];
        private int load;
        private int late;
        private int brake;
        private int wheel;
        private int last;
        private int apart;
        private int lowest;
        private int greatest;

        void begin(Plain first, Plain second, int beat, int valve, int loaded) {
            one.begin(first, valve);
            other.begin(second, valve);
            load = loaded;
            late = Math.max(one.number(LATE), other.number(LATE));
            brake = one.number(BRAKE) + other.number(BRAKE);
            wheel = one.number(WHEEL) + other.number(WHEEL);
            for (int k = 0; k <= AHEAD; k++) {
                beats[k] = beat;
            }
        }

        int beatAt(int t) {
            return beats[AHEAD + t];
        }

        /** Tick t becomes tick t + 1. */
        void tick(int t) {
            if (!within(t, 0, TICKS - 1)) {
                return;
            }
            one.tick(t, beatAt(t - one.number(LATE)));
            other.tick(t, beatAt(t - other.number(LATE)));
            int beat = beatAt(t);
            int open = one.valves[t + 1] + other.valves[t + 1];
            int push = 10 * open - 10 * load - brake * (beat - RIGHT_BEAT);
            beats[AHEAD + t + 1] = bounded(beat + quotient(push, wheel), 0, LAST_BEAT);
        }

        void runTicks(int ticks) {
            for (int t = 0; t < ticks; t++) {
                tick(t);
            }
        }

        void runTillRound() {
            Arrays.fill(latest, NOT_YET);
            apart = 0;
            lowest = beatAt(0);
            greatest = beatAt(0);
            remember(0);
            for (int t = 1; t <= TICKS && apart == 0; t++) {
                tick(t - 1);
                last = t;
                lowest = Math.min(lowest, beatAt(t));
                greatest = Math.max(greatest, beatAt(t));
                int like = tickLike(t);
                if (like == NOT_YET) {
                    remember(t);
                } else {
                    apart = t - like;
                }
            }
        }

        int ending() {
            if (apart == 0) {
                return NEITHER;
            }
            return apart == 1 ? REST : RING;
        }

        int told(int what) {
            switch (what) {
                case 0:
                    return ending();
                case 1:
                    return apart == 0 ? NONE : last;
                case 2:
                    return apart == 0 ? NONE : apart;
                case 3:
                    return lowest;
                case 4:
                    return greatest;
                case 5:
                    return one.valves[last];
                default:
                    return other.valves[last];
            }
        }

        private int bucketOf(int t) {
            int mixed = 31 * beatAt(t) + 17 * one.valves[t] + 7 * other.valves[t];
            return (mixed + one.missed[t] + 3 * other.missed[t]) & (BUCKETS - 1);
        }

        private void remember(int t) {
            int bucket = bucketOf(t);
            earlier[t] = latest[bucket];
            latest[bucket] = t;
        }

        private int tickLike(int t) {
            int s = latest[bucketOf(t)];
            for (int step = 0; step <= TICKS && s != NOT_YET; step++) {
                if (isAlike(s, t)) {
                    return s;
                }
                s = earlier[s];
            }
            return NOT_YET;
        }

        private boolean isAlike(int s, int t) {
            for (int ago = 0; ago <= late; ago++) {
                if (beatAt(s - ago) != beatAt(t - ago)) {
                    return false;
                }
            }
            return one.isAlike(s, t) && other.isAlike(s, t);
        }
    }
}
