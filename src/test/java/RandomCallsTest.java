import java.util.Random;

/** Runs of calls by chance (the same in each run of the test), each answer checked against Plainly. */
public final class RandomCallsTest {
    private static final int RUNS = 4000, CALLS = 512, MOST_AT_ONCE = 124;
    private static final String[] ITEMS = {"w", "r", "b", "o", "k", "g", "i", "d", "s"};
    private static final int[] MOST = {99, 20, 99, 99, 99, 99, 20, 3, 50};

    private final Random chance;
    private final Due due;
    private final BallMinder b = new BallMinder();
    private final Plainly p = new Plainly();
    private final int wild;
    private int calls;

    private RandomCallsTest(int seed, Due due) {
        chance = new Random(seed);
        this.due = due;
        wild = seed % 4 == 0 ? 4 : 40;
    }

    public static void main(String[] args) {
        Due due = new Due();
        for (int seed = 0; seed < RUNS; seed++) {
            new RandomCallsTest(seed, due).run();
        }
        due.end();
    }

    private void run() {
        while (calls < CALLS - MOST_AT_ONCE) {
            if (chance.nextInt(6) == 0) {
                lay();
            } else {
                once();
            }
        }
        due.holds("no more calls than the document tells", calls <= CALLS);
    }

    private int upTo(int least, int greatest) {
        return least + chance.nextInt(greatest - least + 1);
    }

    /** Mostly of the bounds, now and then just beyond them, seldom anywhere. */
    private int some(int least, int greatest) {
        int way = chance.nextInt(wild);
        if (way == 0) {
            return chance.nextBoolean() ? least - 1 : greatest + 1;
        }
        if (way == 1) {
            int[] far = {Integer.MIN_VALUE, Integer.MAX_VALUE, chance.nextInt(), least, greatest, -1};
            return far[chance.nextInt(far.length)];
        }
        return upTo(least, greatest);
    }

    private void lay() {
        if (chance.nextBoolean() || p.many(0) == 0) {
            layText();
        } else {
            layBeats();
        }
    }

    private void layText() {
        StringBuilder text = new StringBuilder();
        int items = chance.nextInt(12) == 0 ? 9 : upTo(0, 5);
        int first = chance.nextInt(9);
        for (int k = 0; k < items; k++) {
            int which = (first + k) % 9;
            int v = upTo(chance.nextInt(20) == 0 ? 0 : 1, MOST[which]);
            text.append(k == 0 ? "" : ";").append(ITEMS[which]).append(v);
        }
        if (chance.nextInt(4) == 0) {
            String odd = "wrbokgids;0123456789x ";
            char sign = odd.charAt(chance.nextInt(odd.length()));
            text.insert(upTo(0, text.length()), sign);
        }
        int[] codes = Texts.codes(text.toString());
        int k = upTo(0, 3);
        int lane = upTo(0, 2);
        layRow(k, lane, codes);
        int kind = upTo(0, 2);
        int n = Math.min(60, codes.length);
        check("mill by " + text, b.mill(kind, k, lane, 0, n), p.mill(kind, k, lane, 0, n));
    }

    private void layRow(int k, int lane, int[] cells) {
        int n = Math.min(60, cells.length);
        check("sheet", b.sheet(k, lane, n), p.sheet(k, lane, n));
        for (int i = 0; i < n; i++) {
            check("put", b.put(k, i, cells[i]), p.put(k, i, cells[i]));
        }
    }

    /** Beats that a mill there is really runs through, now and then with one off. */
    private void layBeats() {
        int x = upTo(0, p.many(0) - 1);
        int load = upTo(0, 100);
        int v = chance.nextBoolean() ? upTo(80, 120) : upTo(0, 999);
        int[] beats = new int[upTo(2, 12)];
        for (int t = 0; t < beats.length; t++) {
            beats[t] = p.after(x, v, 50, load, t, 0);
        }
        if (chance.nextInt(6) == 0) {
            beats[upTo(0, beats.length - 1)] += upTo(-1, 1);
        }
        int k = upTo(0, 3);
        layRow(k, 2, beats);
        check("watch", b.watch(k, 2, 0, beats.length), p.watch(k, 2, 0, beats.length));
        for (int number = 0; number < 9; number++) {
            for (int what = 0; what < 3; what++) {
                check("fits", b.fits(x, number, load, what), p.fits(x, number, load, what));
            }
        }
    }

    private void check(String call, long got, long want) {
        calls += 2;
        due.is(call, got, want);
        due.is("fault() behind " + call, b.fault(), p.fault());
    }

    private void once() {
        int which = chance.nextInt(29);
        if (which < 10) {
            nearCall(which);
        } else if (which < 18) {
            farCall(which);
        } else {
            sheetCall(which);
        }
    }

    private int aMill() {
        return some(0, Math.max(0, p.many(0) - 1));
    }

    private void nearCall(int which) {
        int x = aMill();
        int number = some(0, 6);
        int what = some(0, 2);
        switch (which) {
            case 0 -> {
                int k = some(0, 9);
                check("ofMill", b.ofMill(x, k), p.ofMill(x, k));
            }
            case 1, 2 -> {
                int k = some(0, 8);
                int v = some(0, k >= 0 && k < 9 ? MOST[k] : 9);
                check("turn", b.turn(x, k, v), p.turn(x, k, v));
            }
            case 3 -> {
                int k = some(0, 4);
                check("row", b.row(x, k), p.row(x, k));
            }
            case 4 -> check("margin", b.margin(x), p.margin(x));
            case 5 -> check("near", b.near(x), p.near(x));
            case 6 -> check("line", b.line(x, number, what), p.line(x, number, what));
            case 7 -> check("better", b.better(x, number), p.better(x, number));
            case 8 -> {
                int l = some(-99, 99);
                int part = some(0, 1);
                check("off", b.off(x, l, part), p.off(x, l, part));
            }
            default -> {
                int c = some(-9, 9);
                check("years", b.years(x, number, c), p.years(x, number, c));
            }
        }
    }

    private void farCall(int which) {
        int x = aMill();
        int y = aMill();
        int v = chance.nextBoolean() ? some(80, 130) : some(0, 999);
        int u = some(0, 100);
        int load = some(0, 100);
        switch (which) {
            case 10, 11 -> {
                int what = some(0, 4);
                check("far", b.far(x, v, u, load, what), p.far(x, v, u, load, what));
            }
            case 12 -> {
                int t = some(0, 300);
                int what = some(0, 2);
                check("after", b.after(x, v, u, load, t, what), p.after(x, v, u, load, t, what));
            }
            case 13 -> check("reach", b.reach(x), p.reach(x));
            case 14, 15 -> {
                int both = some(0, 200);
                int what = some(0, 6);
                check("two", b.two(x, y, v, both, what), p.two(x, y, v, both, what));
            }
            case 16 -> {
                int part = some(0, 1);
                check("share", b.share(x, y, part), p.share(x, y, part));
            }
            default -> {
                int set = some(0, (1 << p.many(0)) - 1);
                check("best", b.best(set, load), p.best(set, load));
            }
        }
    }

    private void sheetCall(int which) {
        int k = some(0, 3);
        int lane = some(0, 2);
        int i = some(0, 30);
        int n = some(0, 30);
        int x = aMill();
        switch (which) {
            case 18 -> check("watch", b.watch(k, lane, i, n), p.watch(k, lane, i, n));
            case 19 -> {
                int number = some(0, 8);
                int load = some(0, 100);
                int what = some(0, 2);
                check("fits", b.fits(x, number, load, what), p.fits(x, number, load, what));
            }
            case 20 -> {
                int length = some(0, 60);
                check("sheet", b.sheet(k, lane, length), p.sheet(k, lane, length));
            }
            case 21 -> check("lose", b.lose(k), p.lose(k));
            case 22, 23 -> {
                int v = chance.nextBoolean() ? chance.nextInt() : upTo(0, 1000);
                check("put", b.put(k, i, v), p.put(k, i, v));
            }
            case 24 -> check("cell", b.cell(k, i, lane), p.cell(k, i, lane));
            case 25 -> {
                int other = some(0, 3);
                int j = some(0, 30);
                check("copy", b.copy(k, i, other, j, n), p.copy(k, i, other, j, n));
            }
            case 26 -> check("tell", b.tell(x), p.tell(x));
            case 27 -> check("ring", b.ring(x), p.ring(x));
            default -> {
                int kind = some(0, 2);
                int what = some(0, 1);
                check("as", b.as(x, kind), p.as(x, kind));
                check("many", b.many(what), p.many(what));
                int madeOf = some(0, 2);
                check("mill", b.mill(madeOf, k, lane, i, n), p.mill(madeOf, k, lane, i, n));
            }
        }
        calls++;
        due.is("trace()", b.trace(), p.trace());
    }
}
