import java.math.BigInteger;
import java.util.ArrayList;
import java.util.HashMap;
import java.util.List;
import java.util.Map;

/**
 * The document once more, written apart from the class and without care for speed, with lists, maps and big numbers:
 * what a call answers is checked against it.
 */
final class Plainly {
    private static final int UNKNOWN = -1, OUTSIDE = -2, STATE = -3, FULL = -4, NONE = -9;
    private static final long LOST = Long.MIN_VALUE;
    private static final String LETTERS = "wrbokgids";
    private static final int[][] BOUNDS = {{1, 99, 10}, {0, 20, 1}, {1, 99, 1}, {0, 99, 5}, {0, 99, 5}, {1, 99, 10},
        {0, 20, 0}, {0, 3, 0}, {1, 50, 5}};

    private record Mill(int kind, int[] numbers) {
        Mill with(int number, int v) {
            int[] changed = numbers.clone();
            changed[number] = v;
            return new Mill(kind, changed);
        }
    }

    private record Row(int lane, List<Integer> cells) {
    }

    /** How a run ended: ring is 0, if it did not come round. */
    private record Run(int last, int ring, int lowest, int greatest, List<int[]> valves) {
    }

    private final List<Mill> mills = new ArrayList<>();
    private final Row[] sheets = new Row[4];
    private List<Integer> watched = new ArrayList<>();
    private int trace;
    private int fault;

    private static boolean in(long v, long least, long greatest) {
        return least <= v && v <= greatest;
    }

    private boolean noMill(int x) {
        return !in(x, 0, mills.size() - 1);
    }

    private int fail(int which) {
        fault = which;
        return -10 - which;
    }

    // 1

    int mill(int kind, int sheet, int lane, int i, int n) {
        fault = 0;
        if (!in(sheet, 0, 3)) {
            return UNKNOWN;
        }
        if (!in(kind, 0, 2) || !in(lane, 0, 2)) {
            return OUTSIDE;
        }
        int f = taking(sheets[sheet], lane, i, n);
        if (f != 0) {
            return fail(f);
        }
        List<Integer> text = sheets[sheet].cells.subList(i, i + n);
        int place = firstFault(text);
        if (place >= 0) {
            return -100 - place;
        }
        if (mills.size() == 8) {
            return FULL;
        }
        int[] numbers = new int[9];
        for (int k = 0; k < 9; k++) {
            numbers[k] = BOUNDS[k][2];
        }
        StringBuilder all = new StringBuilder();
        text.forEach(c -> all.append((char) (int) c));
        for (String item : all.toString().split(";")) {
            numbers[LETTERS.indexOf(item.charAt(0))] = Integer.parseInt(item.substring(1));
        }
        mills.add(new Mill(kind, numbers));
        return mills.size() - 1;
    }

    private static int taking(Row row, int lane, int i, int n) {
        if (row != null && row.lane != lane) {
            return 2;
        }
        if (row == null) {
            return 1;
        }
        if (n < 0) {
            return 4;
        }
        return i < 0 || i > row.cells.size() || (long) i + n > row.cells.size() ? 3 : 0;
    }

    /** By steps over the codes: what may come is a letter (0), a first digit (1), a second or ; (2), a ; (3). */
    private static int firstFault(List<Integer> text) {
        String open = LETTERS;
        int may = 0;
        int letter = 0;
        int start = 0;
        int v = 0;
        for (int at = 0; at <= text.size(); at++) {
            int code = at < text.size() ? text.get(at) : -1000;
            boolean digit = in(code, 48, 57);
            if (may == 2 && digit) {
                v = 10 * v + code - 48;
                may = 3;
                continue;
            }
            if (may >= 2 && !in(v, BOUNDS[letter][0], BOUNDS[letter][1])) {
                return start;
            }
            if (at == text.size()) {
                return may >= 2 ? -1 : at;
            }
            if (may == 0) {
                if (code < 0 || code > 127 || open.indexOf(code) < 0) {
                    return at;
                }
                letter = LETTERS.indexOf(code);
                open = open.replace("" + (char) code, "");
                may = 1;
            } else if (may == 1) {
                if (!digit) {
                    return at;
                }
                start = at;
                v = code - 48;
                may = 2;
            } else {
                if (code != 59 || open.isEmpty()) {
                    return at;
                }
                may = 0;
            }
        }
        throw new IllegalStateException();
    }

    int ofMill(int x, int what) {
        if (noMill(x) || !in(what, 0, 9)) {
            return UNKNOWN;
        }
        return what == 9 ? mills.get(x).kind : mills.get(x).numbers[what];
    }

    int turn(int x, int what, int v) {
        if (noMill(x) || !in(what, 0, 8)) {
            return UNKNOWN;
        }
        if (!in(v, BOUNDS[what][0], BOUNDS[what][1])) {
            return OUTSIDE;
        }
        int was = mills.get(x).numbers[what];
        mills.set(x, mills.get(x).with(what, v));
        return was;
    }

    // 2

    private static long[] sums(Mill m) {
        int[] n = m.numbers;
        long W = n[0], R = n[1], B = n[2], O = n[3], K = n[4], G = n[5], I = n[6];
        if (I == 0) {
            return new long[] {R * K + G, W * K + R * O, W * O + R * B, W * B};
        }
        return new long[] {I, R * K + G, W * K + R * O, W * O + R * B, W * B};
    }

    private static BigInteger times(long... factors) {
        BigInteger all = BigInteger.ONE;
        for (long f : factors) {
            all = all.multiply(BigInteger.valueOf(f));
        }
        return all;
    }

    private static BigInteger marginOf(Mill m) {
        long[] a = sums(m);
        if (a.length == 4) {
            return times(a[2], a[1]).subtract(times(a[3], a[0]));
        }
        return times(a[3], a[2], a[1]).subtract(times(a[4], a[1], a[1])).subtract(times(a[3], a[3], a[0]));
    }

    private static int nearOf(Mill m) {
        for (long a : sums(m)) {
            if (a <= 0) {
                return 0;
            }
        }
        return Math.max(0, marginOf(m).signum() + 1);
    }

    long row(int x, int k) {
        if (noMill(x) || !in(k, 0, 4)) {
            return LOST;
        }
        long[] a = sums(mills.get(x));
        return k < a.length ? a[k] : 0;
    }

    long margin(int x) {
        return noMill(x) ? LOST : marginOf(mills.get(x)).longValueExact();
    }

    int near(int x) {
        return noMill(x) ? UNKNOWN : nearOf(mills.get(x));
    }

    private static int told(List<Integer> found, int what) {
        if (what == 2) {
            return found.size();
        }
        if (found.isEmpty()) {
            return NONE;
        }
        return what == 0 ? found.get(0) : found.get(found.size() - 1);
    }

    int line(int x, int number, int what) {
        if (noMill(x) || !in(number, 0, 6)) {
            return UNKNOWN;
        }
        if (!in(what, 0, 2)) {
            return OUTSIDE;
        }
        List<Integer> found = new ArrayList<>();
        for (int v = BOUNDS[number][0]; v <= BOUNDS[number][1]; v++) {
            if (nearOf(mills.get(x).with(number, v)) == 2) {
                found.add(v);
            }
        }
        return told(found, what);
    }

    int better(int x, int number) {
        if (noMill(x) || !in(number, 0, 6)) {
            return UNKNOWN;
        }
        Mill m = mills.get(x);
        if (m.numbers[number] == BOUNDS[number][1]) {
            return STATE;
        }
        return marginOf(m.with(number, m.numbers[number] + 1)).compareTo(marginOf(m));
    }

    private static long least(long upper, long lower, int which) {
        long common = BigInteger.valueOf(upper).gcd(BigInteger.valueOf(lower)).longValueExact();
        return (which == 0 ? upper : lower) / common;
    }

    long off(int x, int l, int which) {
        if (noMill(x) || !in(l, -99, 99) || !in(which, 0, 1)) {
            return LOST;
        }
        int[] n = mills.get(x).numbers;
        return n[6] != 0 ? which : least(-l * n[4], n[1] * n[4] + n[5], which);
    }

    int years(int x, int number, int c) {
        if (noMill(x) || !in(number, 0, 6)) {
            return UNKNOWN;
        }
        if (!in(c, -9, 9)) {
            return OUTSIDE;
        }
        Mill m = mills.get(x);
        for (int year = 1; year <= 60; year++) {
            int v = Math.max(BOUNDS[number][0], Math.min(BOUNDS[number][1], m.numbers[number] + c));
            m = m.with(number, v);
            if (nearOf(m) != 2) {
                return year;
            }
        }
        return NONE;
    }

    // 3

    /** The beats ahead come first in the list of beats, three of them. */
    private static final class Going {
        final Mill[] mills;
        final int load;
        final int[] valve;
        final int[] missed;
        final List<Integer> beats = new ArrayList<>();

        Going(int v, int u, int load, Mill... mills) {
            this.mills = mills;
            this.load = load;
            valve = new int[mills.length];
            missed = new int[mills.length];
            for (int k = 0; k < mills.length; k++) {
                valve[k] = u;
            }
            beats.addAll(List.of(v, v, v, v));
        }

        int beat() {
            return beats.get(beats.size() - 1);
        }

        void tick() {
            int push = -10 * load;
            int wheels = 0;
            for (int k = 0; k < mills.length; k++) {
                int[] n = mills[k].numbers;
                int felt = beats.get(beats.size() - 1 - n[7]);
                int wanted = 50 - (n[5] * (felt - 100) + n[6] * missed[k] / 10) / 10;
                wanted = Math.min(100, Math.max(0, wanted));
                if (n[6] > 0) {
                    missed[k] = Math.min(9999, Math.max(-9999, missed[k] + felt - 100));
                }
                valve[k] = moved(mills[k], valve[k], wanted);
                push += 10 * valve[k] - n[1] * (beat() - 100);
                wheels += n[0];
            }
            beats.add(Math.min(999, Math.max(0, beat() + push / wheels)));
        }

        private static int moved(Mill m, int valve, int wanted) {
            int step = 40 / (m.numbers[3] + 1) == 0 ? 1 : 40 / (m.numbers[3] + 1);
            if (m.kind == 0) {
                return wanted;
            }
            if (m.kind == 2 && Math.abs(valve - wanted) < m.numbers[8]) {
                return valve;
            }
            return wanted > valve ? Math.min(wanted, valve + step) : Math.max(wanted, valve - step);
        }

        String all() {
            int late = 0;
            StringBuilder told = new StringBuilder();
            for (int k = 0; k < mills.length; k++) {
                late = Math.max(late, mills[k].numbers[7]);
                told.append(valve[k]).append(' ').append(missed[k]).append(' ');
            }
            return told.append(beats.subList(beats.size() - 1 - late, beats.size())).toString();
        }
    }

    private static Run run(Going going) {
        Map<String, Integer> seen = new HashMap<>();
        int lowest = going.beat();
        int greatest = going.beat();
        List<int[]> valves = new ArrayList<>();
        valves.add(going.valve.clone());
        seen.put(going.all(), 0);
        for (int t = 1; t <= 300; t++) {
            going.tick();
            valves.add(going.valve.clone());
            lowest = Math.min(lowest, going.beat());
            greatest = Math.max(greatest, going.beat());
            Integer like = seen.putIfAbsent(going.all(), t);
            if (like != null) {
                return new Run(t, t - like, lowest, greatest, valves);
            }
        }
        return new Run(300, 0, lowest, greatest, valves);
    }

    private static int told(Run run, int what) {
        return switch (what) {
            case 0 -> run.ring == 0 ? 2 : run.ring == 1 ? 0 : 1;
            case 1 -> run.ring == 0 ? NONE : run.last;
            case 2 -> run.ring == 0 ? NONE : run.ring;
            case 3 -> run.lowest;
            case 4 -> run.greatest;
            default -> run.valves.get(run.last)[what - 5];
        };
    }

    int far(int x, int v, int u, int load, int what) {
        if (noMill(x)) {
            return UNKNOWN;
        }
        if (!in(v, 0, 999) || !in(u, 0, 100) || !in(load, 0, 100) || !in(what, 0, 4)) {
            return OUTSIDE;
        }
        return told(run(new Going(v, u, load, mills.get(x))), what);
    }

    int after(int x, int v, int u, int load, int t, int what) {
        if (noMill(x)) {
            return UNKNOWN;
        }
        if (!in(v, 0, 999) || !in(u, 0, 100) || !in(load, 0, 100) || !in(t, 0, 300) || !in(what, 0, 2)) {
            return OUTSIDE;
        }
        Going going = new Going(v, u, load, mills.get(x));
        for (int k = 0; k < t; k++) {
            going.tick();
        }
        return what == 0 ? going.beat() : what == 1 ? going.valve[0] : going.missed[0];
    }

    int reach(int x) {
        if (noMill(x)) {
            return UNKNOWN;
        }
        int n = 0;
        while (n < 100 && run(new Going(100 + n, 50, 50, mills.get(x))).ring == 1) {
            n++;
        }
        return n == 0 ? NONE : n - 1;
    }

    int two(int x, int y, int v, int load, int what) {
        if (noMill(x) || noMill(y)) {
            return UNKNOWN;
        }
        if (!in(v, 0, 999) || !in(load, 0, 200) || !in(what, 0, 6) || x == y) {
            return OUTSIDE;
        }
        return told(run(new Going(v, 50, load, mills.get(x), mills.get(y))), what);
    }

    long share(int x, int y, int which) {
        if (noMill(x) || noMill(y) || x == y || !in(which, 0, 1)) {
            return LOST;
        }
        int[] a = mills.get(x).numbers;
        int[] b = mills.get(y).numbers;
        if (a[4] == 0 || b[4] == 0 || a[6] != 0 || b[6] != 0) {
            return LOST;
        }
        return least(a[5] * b[4], a[5] * b[4] + b[5] * a[4], which);
    }

    int best(int set, int load) {
        int best = NONE;
        int lowest = -1;
        for (int k = 0; k < 32; k++) {
            if ((set & 1 << k) != 0 && k >= mills.size()) {
                return OUTSIDE;
            }
        }
        if (!in(load, 0, 100)) {
            return OUTSIDE;
        }
        for (int k = 0; k < mills.size(); k++) {
            if ((set & 1 << k) != 0) {
                int its = run(new Going(100, 50, load, mills.get(k))).lowest;
                if (its > lowest) {
                    lowest = its;
                    best = k;
                }
            }
        }
        return best;
    }

    // 4

    int watch(int sheet, int lane, int i, int n) {
        fault = 0;
        if (!in(sheet, 0, 3)) {
            return UNKNOWN;
        }
        if (!in(lane, 0, 2)) {
            return OUTSIDE;
        }
        int f = taking(sheets[sheet], lane, i, n);
        if (f != 0) {
            return fail(f);
        }
        List<Integer> beats = sheets[sheet].cells.subList(i, i + n);
        if (!in(n, 2, 30) || beats.stream().anyMatch(beat -> !in(beat, 0, 999))) {
            return OUTSIDE;
        }
        watched = new ArrayList<>(beats);
        return n;
    }

    int fits(int x, int number, int load, int what) {
        if (noMill(x) || !in(number, 0, 8)) {
            return UNKNOWN;
        }
        if (!in(load, 0, 100) || !in(what, 0, 2)) {
            return OUTSIDE;
        }
        if (watched.isEmpty()) {
            return STATE;
        }
        List<Integer> found = new ArrayList<>();
        for (int v = BOUNDS[number][0]; v <= BOUNDS[number][1]; v++) {
            Going going = new Going(watched.get(0), 50, load, mills.get(x).with(number, v));
            for (int t = 1; t < watched.size(); t++) {
                going.tick();
            }
            if (going.beats.subList(3, going.beats.size()).equals(watched)) {
                found.add(v);
            }
        }
        return told(found, what);
    }

    // 5

    int sheet(int k, int lane, int n) {
        fault = 0;
        if (!in(k, 0, 3)) {
            return UNKNOWN;
        }
        if (!in(lane, 0, 2) || n > 60) {
            return OUTSIDE;
        }
        if (n < 0) {
            return fail(4);
        }
        List<Integer> cells = new ArrayList<>();
        for (int i = 0; i < n; i++) {
            cells.add(0);
        }
        sheets[k] = new Row(lane, cells);
        return 1;
    }

    int lose(int k) {
        if (!in(k, 0, 3)) {
            return UNKNOWN;
        }
        int had = sheets[k] == null ? 0 : 1;
        sheets[k] = null;
        return had;
    }

    int put(int k, int i, int v) {
        fault = 0;
        if (!in(k, 0, 3)) {
            return UNKNOWN;
        }
        Row row = sheets[k];
        if (row == null) {
            return fail(1);
        }
        if (!in(i, 0, row.cells.size() - 1)) {
            return fail(3);
        }
        row.cells.set(i, row.lane == 0 ? (int) (byte) v : row.lane == 1 ? (int) (short) v : v);
        return 1;
    }

    long cell(int k, int i, int lane) {
        fault = 0;
        if (!in(k, 0, 3) || !in(lane, 0, 2)) {
            return LOST;
        }
        Row row = sheets[k];
        fault = row == null ? 1 : row.lane != lane ? 2 : in(i, 0, row.cells.size() - 1) ? 0 : 3;
        return fault != 0 ? LOST : row.cells.get(i);
    }

    int copy(int k, int i, int other, int j, int n) {
        fault = 0;
        if (!in(k, 0, 3) || !in(other, 0, 3)) {
            return UNKNOWN;
        }
        Row from = sheets[k];
        Row to = sheets[other];
        if (from == null || to == null) {
            return fail(1);
        }
        if (from.lane != to.lane) {
            return fail(2);
        }
        if (i < 0 || j < 0 || n < 0 || (long) i + n > from.cells.size() || (long) j + n > to.cells.size()) {
            return fail(3);
        }
        List<Integer> were = new ArrayList<>(from.cells.subList(i, i + n));
        for (int c = 0; c < n; c++) {
            to.cells.set(j + c, were.get(c));
        }
        return n;
    }

    private void leave(int... bodies) {
        for (int body : bodies) {
            trace = trace * 31 + body;
        }
    }

    int tell(int x) {
        if (noMill(x)) {
            return UNKNOWN;
        }
        int wheel = mills.get(x).numbers[0];
        switch (mills.get(x).kind) {
            case 0:
                leave(1);
                return wheel;
            case 1:
                leave(2, 1);
                return wheel + 100;
            default:
                leave(3, 2, 1, 1);
                return wheel + 100 + wheel;
        }
    }

    int ring(int x) {
        if (noMill(x)) {
            return UNKNOWN;
        }
        boolean sticky = mills.get(x).kind == 2;
        leave(sticky ? 5 : 4);
        return sticky ? 50 : x;
    }

    int as(int x, int kind) {
        fault = 0;
        if (noMill(x)) {
            return UNKNOWN;
        }
        if (!in(kind, 0, 2)) {
            return OUTSIDE;
        }
        return kind <= mills.get(x).kind ? 1 : fail(2);
    }

    int trace() {
        return trace;
    }

    int fault() {
        return fault;
    }

    int many(int what) {
        return what == 0 ? mills.size() : what == 1 ? watched.size() : OUTSIDE;
    }
}
