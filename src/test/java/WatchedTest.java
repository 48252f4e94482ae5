/** Promises 18 and 19: watch, fits. */
public final class WatchedTest {
    private static final int UNKNOWN = BallMinder.UNKNOWN, OUTSIDE = BallMinder.OUTSIDE, NONE = BallMinder.NONE;

    public static void main(String[] args) {
        Due due = new Due();
        watching(due);
        refusalsOfWatch(due);
        fitting(due);
        refusalsOfFits(due);
        due.end();
    }

    private static void watching(Due due) {
        BallMinder b = new BallMinder();
        for (int lane = 0; lane < 3; lane++) {
            Texts.lay(b, lane, lane, 1, 2, 3, 4, 5);
            due.is("all of it", b.watch(lane, lane, 0, 5), 5);
            due.is("many(1)", b.many(1), 5);
            due.is("a part", b.watch(lane, lane, 2, 2), 2);
            due.is("many(1)", b.many(1), 2);
        }
        int[] thirty = new int[30];
        thirty[29] = 999;
        due.is("30", Texts.watched(b, thirty), 30);
        due.is("many(1)", b.many(1), 30);
    }

    private static void refusalsOfWatch(Due due) {
        BallMinder b = new BallMinder();
        Texts.watched(b, 100, 100);
        due.is("sheet 4", b.watch(4, 9, -1, -1), UNKNOWN);
        due.is("sheet -1", b.watch(-1, 0, 0, 2), UNKNOWN);
        due.is("lane 3", b.watch(0, 3, -1, -1), OUTSIDE);
        due.is("lane -1", b.watch(0, -1, -1, -1), OUTSIDE);
        due.is("nothing", b.watch(0, 0, -1, -1), -11);
        due.is("fault()", b.fault(), 1);
        Texts.lay(b, 0, 1, 100, 1000, -1, 5);
        due.is("cast", b.watch(0, 0, -1, -1), -12);
        due.is("fault()", b.fault(), 2);
        due.is("size", b.watch(0, 1, -1, -1), -14);
        due.is("fault()", b.fault(), 4);
        due.is("index", b.watch(0, 1, 5, 0), -13);
        due.is("index", b.watch(0, 1, -1, 0), -13);
        due.is("index ahead of a beat", b.watch(0, 1, 1, 4), -13);
        due.is("fault()", b.fault(), 3);
        due.is("none", b.watch(0, 1, 4, 0), OUTSIDE);
        due.is("fault()", b.fault(), 0);
        due.is("one", b.watch(0, 1, 3, 1), OUTSIDE);
        due.is("a beat of 1000", b.watch(0, 1, 0, 2), OUTSIDE);
        due.is("a beat of -1", b.watch(0, 1, 2, 2), OUTSIDE);
        b.sheet(0, 0, 31);
        due.is("31", b.watch(0, 0, 0, 31), OUTSIDE);
        due.is("still watched", b.many(1), 2);
        due.is("30", b.watch(0, 0, 1, 30), 30);
    }

    private static void fitting(Due due) {
        // from 110: WANTED 50 - g; 10 (50 - g) - 500 by w
        BallMinder b = new BallMinder();
        Texts.drawn(b, 0, "w10;r0;g10");
        Texts.watched(b, 110, 100);
        due.is("g least", b.fits(0, 5, 50, 0), 10);
        due.is("g greatest", b.fits(0, 5, 50, 1), 10);
        due.is("g how many", b.fits(0, 5, 50, 2), 1);
        due.is("w least", b.fits(0, 0, 50, 0), 10);
        due.is("w greatest", b.fits(0, 0, 50, 1), 10);
        due.is("stick of a plain one, least", b.fits(0, 8, 50, 0), 1);
        due.is("stick of a plain one, greatest", b.fits(0, 8, 50, 1), 50);
        due.is("stick of a plain one, how many", b.fits(0, 8, 50, 2), 50);
        due.is("late", b.fits(0, 7, 50, 2), 4);
        due.is("with another load", b.fits(0, 5, 40, 0), 20);
        due.is("with no load", b.fits(0, 5, 0, 2), 0);
        due.is("with all load", b.fits(0, 5, 100, 2), 0);
        due.is("as it was", b.ofMill(0, 5), 10);
        Texts.watched(b, 110, 100, 100);
        due.is("late behind two", b.fits(0, 7, 50, 2), 1);
        due.is("late behind two, least", b.fits(0, 7, 50, 0), 0);
        due.is("late behind two, greatest", b.fits(0, 7, 50, 1), 0);
        Texts.watched(b, 110, 300);
        due.is("none, least", b.fits(0, 0, 50, 0), NONE);
        due.is("none, greatest", b.fits(0, 0, 50, 1), NONE);
        due.is("none, how many", b.fits(0, 0, 50, 2), 0);
    }

    private static void refusalsOfFits(Due due) {
        BallMinder b = new BallMinder();
        Texts.drawn(b, 0, "w10");
        due.is("nothing watched", b.fits(0, 0, 50, 0), BallMinder.STATE);
        due.is("mill 1", b.fits(1, 0, 101, 0), UNKNOWN);
        due.is("mill -1", b.fits(-1, 0, 50, 0), UNKNOWN);
        due.is("number 9", b.fits(0, 9, 101, 0), UNKNOWN);
        due.is("number -1", b.fits(0, -1, 50, 0), UNKNOWN);
        due.is("load 101", b.fits(0, 0, 101, 0), OUTSIDE);
        due.is("load -1", b.fits(0, 0, -1, 0), OUTSIDE);
        due.is("what 3", b.fits(0, 0, 50, 3), OUTSIDE);
        due.is("what -1", b.fits(0, 0, 50, -1), OUTSIDE);
    }
}
