/** The edges that the document names in section 4 and promises 18 and 19; above each test the sentence it holds to. */
public final class WatchedEdgesTest {
    private static final int OUTSIDE = BallMinder.OUTSIDE, UNKNOWN = BallMinder.UNKNOWN, NONE = BallMinder.NONE;
    private static final int[] LEAST = {1, 0, 1, 0, 0, 1, 0, 0, 1};
    private static final int[] GREATEST = {99, 20, 99, 99, 99, 99, 20, 3, 50};
    private static final int OIL = 3, PULL = 5, LATE = 7, STICK = 8;

    private final Due due = new Due();

    public static void main(String[] args) {
        WatchedEdgesTest test = new WatchedEdgesTest();
        test.noneAtFirst();
        test.fewestAndMost();
        test.beatsAtTheirBounds();
        test.cellsAheadAndBehind();
        test.noneTaken();
        test.refusedLeavesWhatWasWatched();
        test.watchedStaysAsItWas();
        test.watchedAnew();
        test.everyNumberFits();
        test.everyBeatCounts();
        test.theFirstBeatIsWhereItBegins();
        test.fitsAtOneEndAlone();
        test.fitsWithAGap();
        test.fitsByKind();
        test.fitsOfNone();
        test.fitsLeavesAllAsItIs();
        test.wrongNumbersOfFits();
        test.due.end();
    }

    private static BallMinder with(int kind, String text) {
        BallMinder b = new BallMinder();
        Texts.drawn(b, kind, text);
        return b;
    }

    private static int[] ofBeat(int n, int beat) {
        int[] beats = new int[n];
        java.util.Arrays.fill(beats, beat);
        return beats;
    }

    private void fits(BallMinder b, int number, int load, int least, int greatest, int many) {
        due.is("least of " + number, b.fits(0, number, load, 0), least);
        due.is("greatest of " + number, b.fits(0, number, load, 1), greatest);
        due.is("how many of " + number, b.fits(0, number, load, 2), many);
    }

    /** None at first. STATE: nothing is WATCHED. */
    private void noneAtFirst() {
        BallMinder b = with(0, "w10");
        due.is("many(1)", b.many(1), 0);
        for (int number = 0; number < 9; number++) {
            fits(b, number, 50, BallMinder.STATE, BallMinder.STATE, BallMinder.STATE);
        }
        due.is("a refused watch", b.watch(3, 0, 0, 1), OUTSIDE);
        fits(b, 0, 50, BallMinder.STATE, BallMinder.STATE, BallMinder.STATE);
    }

    /** A row of 2 to 30 BEATS. OUTSIDE: n is not 2 .. 30. */
    private void fewestAndMost() {
        for (int lane = 0; lane < 3; lane++) {
            BallMinder b = new BallMinder();
            b.sheet(0, lane, 60);
            for (int n : new int[] {0, 1, 31, 32, 60}) {
                due.is("n " + n, b.watch(0, lane, 0, n), OUTSIDE);
                due.is("fault()", b.fault(), 0);
                due.is("many(1)", b.many(1), 0);
            }
            for (int n = 2; n <= 30; n++) {
                due.is("n " + n, b.watch(0, lane, 0, n), n);
                due.is("many(1)", b.many(1), n);
            }
            due.is("n 30, the last", b.watch(0, lane, 30, 30), 30);
            due.is("n 30, one beyond", b.watch(0, lane, 31, 30), -13);
            due.is("n 61", b.watch(0, lane, 0, 61), -13);
        }
    }

    /** BEATS (0 .. 999). OUTSIDE: a BEAT. */
    private void beatsAtTheirBounds() {
        for (int place = 0; place < 30; place++) {
            BallMinder b = new BallMinder();
            b.sheet(0, 2, 30);
            for (int right : new int[] {0, 999}) {
                b.put(0, place, right);
                due.is(right + " at " + place, b.watch(0, 2, 0, 30), 30);
            }
            for (int wrong : new int[] {-1, 1000, Integer.MIN_VALUE, Integer.MAX_VALUE}) {
                b.put(0, place, wrong);
                due.is(wrong + " at " + place, b.watch(0, 2, 0, 30), OUTSIDE);
                due.is("fault()", b.fault(), 0);
            }
        }
        BallMinder b = new BallMinder();
        Texts.lay(b, 0, 0, 127, 128);
        due.is("a byte of 128 is cut to -128", b.watch(0, 0, 0, 2), OUTSIDE);
        Texts.lay(b, 0, 1, 999, 65536);
        due.is("a short of 65536 is cut to 0", b.watch(0, 1, 0, 2), 2);
    }

    /** WATCHED by n such cells: those ahead and behind are not looked at. */
    private void cellsAheadAndBehind() {
        BallMinder b = with(0, "w10;r0;g10");
        Texts.lay(b, 0, 2, -1, 110, 100, 1000);
        due.is("the two between", b.watch(0, 2, 1, 2), 2);
        fits(b, PULL, 50, 10, 10, 1);
        due.is("with the one ahead", b.watch(0, 2, 0, 3), OUTSIDE);
        due.is("with the one behind", b.watch(0, 2, 1, 3), OUTSIDE);
    }

    /** INDEX: of cells from i on also where i is not 0 .. how many there are, if none of them is taken, too. */
    private void noneTaken() {
        for (int cells = 0; cells <= 60; cells += 30) {
            BallMinder b = new BallMinder();
            b.sheet(0, 0, cells);
            for (int i : new int[] {0, cells}) {
                due.is("none of " + cells + " from " + i + " on", b.watch(0, 0, i, 0), OUTSIDE);
                due.is("fault()", b.fault(), 0);
            }
            for (int i : new int[] {-1, cells + 1, Integer.MIN_VALUE, Integer.MAX_VALUE}) {
                due.is("none of " + cells + " from " + i + " on", b.watch(0, 0, i, 0), -13);
                due.is("fault()", b.fault(), 3);
                due.is("less than none from " + i + " on", b.watch(0, 0, i, -1), -14);
                due.is("fault()", b.fault(), 4);
            }
        }
    }

    /** Refusals and faults change nothing. */
    private void refusedLeavesWhatWasWatched() {
        BallMinder b = with(0, "w10;r0;g10");
        Texts.watched(b, 110, 100);
        Texts.lay(b, 0, 0, 100, 100, -1);
        int[][] refused = {{4, 0, 0, 2}, {0, 3, 0, 2}, {0, 1, 0, 2}, {1, 0, 0, 2}, {0, 0, 0, -1}, {0, 0, 2, 2},
            {0, 0, 0, 1}, {0, 0, 0, 0}, {0, 0, 0, 3}, {0, 0, 1, 2}};
        for (int[] w : refused) {
            due.holds(Calls.told("watch", w), b.watch(w[0], w[1], w[2], w[3]) < 0);
            due.is("many(1)", b.many(1), 2);
            fits(b, PULL, 50, 10, 10, 1);
        }
    }

    private void watchedStaysAsItWas() {
        BallMinder b = with(0, "w10;r0;g10");
        Texts.watched(b, 110, 100);
        b.put(3, 1, 90);
        fits(b, PULL, 50, 10, 10, 1);
        b.sheet(3, 0, 0);
        fits(b, PULL, 50, 10, 10, 1);
        b.lose(3);
        fits(b, PULL, 50, 10, 10, 1);
        due.is("many(1)", b.many(1), 2);
    }

    private void watchedAnew() {
        BallMinder b = with(0, "w10;r0;g10");
        Texts.watched(b, ofBeat(30, 0));
        due.is("30 that do not fit", b.fits(0, PULL, 50, 2), 0);
        Texts.watched(b, 110, 100);
        due.is("many(1)", b.many(1), 2);
        fits(b, PULL, 50, 10, 10, 1);
        Texts.watched(b, 110, 100, 101);
        due.is("many(1)", b.many(1), 3);
        fits(b, PULL, 50, NONE, NONE, 0);
    }

    /** Numbers of a NUMBER (0 .. 8): the least, the greatest, how many. */
    private void everyNumberFits() {
        for (int kind = 0; kind < 3; kind++) {
            for (int n : new int[] {2, 30}) {
                BallMinder b = with(kind, "w10");
                Texts.watched(b, ofBeat(n, 100));
                for (int number = 0; number < 9; number++) {
                    fits(b, number, 50, LEAST[number], GREATEST[number], GREATEST[number] - LEAST[number] + 1);
                }
            }
        }
    }

    /** The BEATS of the TICKS behind are just as WATCHED. */
    private void everyBeatCounts() {
        for (int place = 1; place < 30; place++) {
            BallMinder b = with(0, "w10");
            int[] beats = ofBeat(30, 100);
            beats[place] = place % 2 == 0 ? 99 : 101;
            Texts.watched(b, beats);
            due.is("all but the one at " + place, b.fits(0, 0, 50, 2), 0);
            due.is("least", b.fits(0, 0, 50, 0), NONE);
        }
    }

    /** FROM the first BEAT, VALVE 50, with a LOAD. */
    private void theFirstBeatIsWhereItBegins() {
        // the valve stays at 50 and the beat with it, if it is off by less than STICK: by 10, 9, 0, 40
        BallMinder b = with(2, "w10;r0;g1;s50");
        int[] firsts = {0, 1, 100, 500};
        int[] leasts = {11, 10, 1, 41};
        for (int k = 0; k < firsts.length; k++) {
            Texts.watched(b, firsts[k], firsts[k]);
            fits(b, STICK, 50, leasts[k], 50, 51 - leasts[k]);
        }
        Texts.watched(b, 100, 110);
        fits(b, STICK, 40, 1, 50, 50);
        due.is("with another load", b.fits(0, STICK, 41, 2), 0);
        Texts.watched(b, 999, 999);
        fits(b, STICK, 0, 1, 50, 50);
        Texts.watched(b, 100, 50);
        fits(b, STICK, 100, 1, 50, 50);
    }

    private void fitsAtOneEndAlone() {
        // from 110 with pull g: 50 - g, 10 g down by 10
        BallMinder b = with(0, "w10;r0;g50");
        Texts.watched(b, 110, 109);
        fits(b, PULL, 50, 1, 1, 1);
        // shut from 50 on: 50 down
        Texts.watched(b, 110, 60);
        fits(b, PULL, 50, 50, 99, 50);
        b = with(0, "w1;r0;g1");
        // from 101: 50 - g by 10, and ten times that down
        Texts.watched(b, 101, 11);
        fits(b, PULL, 50, 90, 99, 10);
    }

    private void fitsWithAGap() {
        // open: 660; 0 by the brake, open or shut; then late 0 and 2, 3 feel 0 and 70 and open it, late 1 feels 660
        BallMinder b = with(0, "w1;r3;g24");
        Texts.watched(b, 70, 660, 0, 800);
        fits(b, LATE, 50, 0, 3, 3);
        Texts.watched(b, 70, 660, 0, 0);
        fits(b, LATE, 50, 1, 1, 1);
    }

    private void fitsByKind() {
        // 42 is wanted: 8 down at once
        int[] beats = {108, 100};
        BallMinder b = with(0, "w10;r0;g10");
        Texts.watched(b, beats);
        fits(b, OIL, 50, 0, 99, 100);
        fits(b, STICK, 50, 1, 50, 50);
        b = with(1, "w10;r0;g10");
        Texts.watched(b, beats);
        // 40 by 5 is 8, by 6 is 6
        fits(b, OIL, 50, 0, 4, 5);
        fits(b, STICK, 50, NONE, NONE, 0);
        b = with(2, "w10;r0;g10;o4");
        Texts.watched(b, beats);
        fits(b, STICK, 50, 1, 8, 8);
        fits(b, OIL, 50, 0, 4, 5);
    }

    /** NONE: there is none (what 0, 1). */
    private void fitsOfNone() {
        BallMinder b = with(0, "w10");
        Texts.watched(b, 0, 999);
        for (int number = 1; number < 9; number++) {
            fits(b, number, 50, NONE, NONE, 0);
        }
    }

    /** All others as they are; the mill itself stays. */
    private void fitsLeavesAllAsItIs() {
        BallMinder b = with(2, "w9;r5;b12;o1;k7;g9;i3;d2;s8");
        int[] were = {9, 5, 12, 1, 7, 9, 3, 2, 8, 2};
        Texts.watched(b, 110, 100, 101);
        for (int number = 0; number < 9; number++) {
            for (int what = 0; what < 3; what++) {
                b.fits(0, number, 50, what);
            }
            for (int what = 0; what < 10; what++) {
                due.is("ofMill(0, " + what + ")", b.ofMill(0, what), were[what]);
            }
        }
    }

    private void wrongNumbersOfFits() {
        BallMinder b = with(0, "w10");
        Texts.watched(b, 100, 100);
        for (int wrong : new int[] {Integer.MIN_VALUE, Integer.MAX_VALUE}) {
            due.is("mill " + wrong, b.fits(wrong, 0, 50, 0), UNKNOWN);
            due.is("number " + wrong, b.fits(0, wrong, 50, 0), UNKNOWN);
            due.is("load " + wrong, b.fits(0, 0, wrong, 0), OUTSIDE);
            due.is("what " + wrong, b.fits(0, 0, 50, wrong), OUTSIDE);
        }
        due.is("number 9", b.fits(0, 9, 50, 0), UNKNOWN);
        due.is("number -1", b.fits(0, -1, 50, 0), UNKNOWN);
        due.is("load 101", b.fits(0, 0, 101, 0), OUTSIDE);
        due.is("load -1", b.fits(0, 0, -1, 0), OUTSIDE);
        due.is("load 100", b.fits(0, 0, 100, 2), 0);
        due.is("load 0", b.fits(0, 0, 0, 2), 0);
        due.is("what 3", b.fits(0, 0, 50, 3), OUTSIDE);
        due.is("what -1", b.fits(0, 0, 50, -1), OUTSIDE);
    }
}
