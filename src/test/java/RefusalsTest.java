/**
 * Of each call: the order in which its line tells its refusals and faults, where several are due at once; that a
 * refused call changes nothing; what fault() tells behind it. The rungs are numbered as the call's line tells them.
 */
public final class RefusalsTest {
    private static final int UNKNOWN = BallMinder.UNKNOWN, OUTSIDE = BallMinder.OUTSIDE, STATE = BallMinder.STATE;
    private static final long LOST = BallMinder.LOST;
    private static final int NULL = -11, CAST = -12, INDEX = -13, SIZE = -14;
    private static final int MOST = Integer.MAX_VALUE, LEAST = Integer.MIN_VALUE;

    private final Due due = new Due();
    private final Mixture made = new Mixture(due, World::made);

    public static void main(String[] args) {
        RefusalsTest test = new RefusalsTest();
        test.mills();
        test.numbersOfMills();
        test.nearRest();
        test.far();
        test.two();
        test.shares();
        test.bests();
        test.watching();
        test.fitting();
        test.rowsOfSheets();
        test.cellsOfSheets();
        test.copies();
        test.parts();
        test.withoutNumbers();
        test.due.end();
    }

    private static Part part() {
        return new Part();
    }

    private static Part mill(long answer) {
        return part().eachRight(0, 1, 2).eachWrong(1, answer, -1, World.MILLS, 8);
    }

    /** The least and the greatest number that are right, and those just beyond them. */
    private static Part from(int least, int greatest, int rung, long answer) {
        return part().eachRight(least, greatest).eachWrong(rung, answer, least - 1, greatest + 1);
    }

    /** UNKNOWN; OUTSIDE: kind, lane; CAST (nothing is no CAST); NULL; SIZE: n below 0; INDEX; -100 less it; FULL. */
    private void mills() {
        Part kind = from(0, 2, 2, OUTSIDE);
        Part sheet = part().right(0).eachWrong(1, UNKNOWN, -1, 4).eachWrong(3, CAST, 1, 2).wrong(4, NULL, 3);
        Part lane = part().right(0).eachWrong(2, OUTSIDE, -1, 3);
        Part cells = part().right(0, 5).right(3, 2)
            .wrong(5, SIZE, 0, -1).wrong(5, SIZE, -1, -1).wrong(5, SIZE, 6, LEAST)
            .wrong(6, INDEX, -1, 0).wrong(6, INDEX, -1, 3).wrong(6, INDEX, 6, 0)
            .wrong(6, INDEX, 0, 6).wrong(6, INDEX, 5, 1).wrong(6, INDEX, MOST, MOST)
            .wrong(7, -103, 0, 3).wrong(7, -100, 5, 0).wrong(7, -101, 3, 1);
        made.ask("mill", kind, sheet, lane, cells);
        new Mixture(due, World::full).askRefused("mill", BallMinder.FULL, kind, sheet, lane, cells);
    }

    /** UNKNOWN: MILL, what. UNKNOWN; OUTSIDE. */
    private void numbersOfMills() {
        made.ask("ofMill", mill(UNKNOWN), from(0, 9, 1, UNKNOWN));
        made.ask("turn", mill(UNKNOWN), part().right(0, 1).right(8, 50).right(7, 3)
            .wrong(1, UNKNOWN, -1, 5).wrong(1, UNKNOWN, 9, 5).wrong(1, UNKNOWN, 9, 1000)
            .wrong(2, OUTSIDE, 0, 0).wrong(2, OUTSIDE, 0, 100).wrong(2, OUTSIDE, 1, -1)
            .wrong(2, OUTSIDE, 7, 4).wrong(2, OUTSIDE, 8, 51));
    }

    /** UNKNOWN: MILL, NUMBER (0 .. 6); OUTSIDE; of better STATE. */
    private void nearRest() {
        made.ask("row", mill(LOST), from(0, 4, 2, LOST));
        made.ask("margin", mill(LOST));
        made.ask("near", mill(UNKNOWN));
        made.ask("line", mill(UNKNOWN), from(0, 6, 1, UNKNOWN), from(0, 2, 2, OUTSIDE));
        // mill 1 has all the oil there may be
        made.ask("better", part().right(0, 0).right(1, 6).right(0, 3).wrong(2, STATE, 1, 3)
            .wrong(1, UNKNOWN, -1, 3).wrong(1, UNKNOWN, 3, 3).wrong(1, UNKNOWN, 1, 7).wrong(1, UNKNOWN, 1, -1));
        made.ask("off", mill(LOST), from(-99, 99, 2, LOST), from(0, 1, 2, LOST));
        made.ask("years", mill(UNKNOWN), from(0, 6, 1, UNKNOWN), from(-9, 9, 2, OUTSIDE));
    }

    /** UNKNOWN; OUTSIDE. */
    private void far() {
        Part beat = from(0, 999, 2, OUTSIDE);
        Part valve = from(0, 100, 2, OUTSIDE);
        Part load = from(0, 100, 2, OUTSIDE);
        Part fewMills = part().right(1).eachWrong(1, UNKNOWN, -1, World.MILLS);
        made.ask("far", mill(UNKNOWN), beat, valve, load, from(0, 4, 2, OUTSIDE));
        made.ask("after", fewMills, beat, valve, load, from(0, 300, 2, OUTSIDE), from(0, 2, 2, OUTSIDE));
        made.ask("reach", mill(UNKNOWN));
    }

    /** UNKNOWN: MILLS; OUTSIDE: v, load, what, both are one. */
    private void two() {
        Part both = part().right(0, 1).right(2, 0).wrong(2, OUTSIDE, 0, 0).wrong(2, OUTSIDE, 2, 2)
            .wrong(1, UNKNOWN, 0, 3).wrong(1, UNKNOWN, 3, 0).wrong(1, UNKNOWN, -1, 0).wrong(1, UNKNOWN, 0, -1)
            .wrong(1, UNKNOWN, 3, 3).wrong(1, UNKNOWN, -1, -1);
        made.ask("two", both, from(0, 999, 2, OUTSIDE), from(0, 200, 2, OUTSIDE), from(0, 6, 2, OUTSIDE));
    }

    /** LOST: UNKNOWN; OUTSIDE: both are one, which; STATE. */
    private void shares() {
        // mill 1 has SECOND
        Part both = part().right(0, 2).right(2, 0).wrong(3, LOST, 0, 1).wrong(3, LOST, 1, 2)
            .wrong(1, LOST, 0, 3).wrong(1, LOST, -1, 0).wrong(2, LOST, 0, 0).wrong(2, LOST, 1, 1);
        made.ask("share", both, from(0, 1, 2, LOST));
    }

    /** OUTSIDE: a bit of none, load. */
    private void bests() {
        Part set = part().eachRight(0, 1, 4, 7).eachWrong(1, OUTSIDE, 8, 15, 256, -1, LEAST);
        made.ask("best", set, from(0, 100, 1, OUTSIDE));
    }

    /** UNKNOWN; OUTSIDE: lane; CAST; NULL; SIZE; INDEX; OUTSIDE: n is not 2 .. 30, a BEAT. */
    private void watching() {
        Part sheet = part().right(1).eachWrong(1, UNKNOWN, -1, 4).eachWrong(3, CAST, 0, 2).wrong(4, NULL, 3);
        Part lane = part().right(1).eachWrong(2, OUTSIDE, -1, 3);
        Part cells = part().right(0, 2)
            .wrong(5, SIZE, 0, -1).wrong(5, SIZE, -1, -1).wrong(5, SIZE, 5, LEAST)
            .wrong(6, INDEX, -1, 0).wrong(6, INDEX, 5, 0).wrong(6, INDEX, 0, 5)
            .wrong(6, INDEX, 4, 1).wrong(6, INDEX, 0, 31).wrong(6, INDEX, 2, MOST)
            .wrong(7, OUTSIDE, 0, 0).wrong(7, OUTSIDE, 4, 0).wrong(7, OUTSIDE, 0, 1)
            .wrong(7, OUTSIDE, 0, 3).wrong(7, OUTSIDE, 2, 2);
        made.ask("watch", sheet, lane, cells);
    }

    /** UNKNOWN: MILL, NUMBER (0 .. 8); OUTSIDE; STATE: nothing is WATCHED. */
    private void fitting() {
        Part number = from(0, 8, 1, UNKNOWN);
        Part load = from(0, 100, 2, OUTSIDE);
        Part what = from(0, 2, 2, OUTSIDE);
        made.ask("fits", mill(UNKNOWN), number, load, what);
        new Mixture(due, World::unwatched).askRefused("fits", STATE, mill(UNKNOWN), number, load, what);
    }

    /** UNKNOWN; OUTSIDE: lane, n above 60; SIZE. */
    private void rowsOfSheets() {
        Part sheet = from(0, 3, 1, UNKNOWN);
        Part cells = part().eachRight(0, 60).eachWrong(2, OUTSIDE, 61, MOST).eachWrong(3, SIZE, -1, LEAST);
        made.ask("sheet", sheet, from(0, 2, 2, OUTSIDE), cells);
        made.ask("lose", sheet);
    }

    /** UNKNOWN; NULL; INDEX. LOST: UNKNOWN, OUTSIDE: lane; FAULTS CAST (nothing is no CAST), NULL, INDEX. */
    private void cellsOfSheets() {
        Part sheet = part().right(0).eachWrong(1, UNKNOWN, -1, 4).wrong(2, NULL, 3);
        Part place = part().eachRight(0, 4).eachWrong(3, INDEX, -1, 5, LEAST, MOST);
        made.ask("put", sheet, place, part().eachRight(0, -1, LEAST, MOST));
        Part taken = part().right(0).eachWrong(1, LOST, -1, 4).lost(3, 2, 1).lost(3, 2, 2).lost(4, 1, 3);
        Part at = part().eachRight(0, 4).lost(5, 3, -1).lost(5, 3, 5).lost(5, 3, LEAST).lost(5, 3, MOST);
        made.ask("cell", taken, at, part().right(0).eachWrong(2, LOST, -1, 3));
    }

    /** UNKNOWN; FAULTS NULL (the first, the other), CAST (unlike LANES), INDEX: i, j, n below 0 or beyond. */
    private void copies() {
        Part from = part().right(0).eachWrong(1, UNKNOWN, -1, 4).wrong(2, NULL, 3);
        Part to = part().right(0).eachWrong(1, UNKNOWN, -1, 4).wrong(2, NULL, 3).eachWrong(3, CAST, 1, 2);
        Part at = part().eachRight(0, 3).eachWrong(4, INDEX, -1, 6, MOST);
        Part many = part().eachRight(0, 2).eachWrong(4, INDEX, -1, 6, LEAST, MOST);
        made.ask("copy", from, at, to, at, many);
    }

    /** UNKNOWN; of as OUTSIDE; CAST: it is none. */
    private void parts() {
        made.ask("tell", mill(UNKNOWN));
        made.ask("ring", mill(UNKNOWN));
        made.ask("as", mill(UNKNOWN), part().right(0).eachWrong(2, OUTSIDE, -1, 3));
        made.ask("as", part().right(1, 1).right(2, 2).right(2, 1)
            .wrong(3, CAST, 0, 1).wrong(3, CAST, 0, 2).wrong(3, CAST, 1, 2)
            .wrong(1, UNKNOWN, 3, 2).wrong(1, UNKNOWN, -1, 2).wrong(2, OUTSIDE, 0, 3));
        made.ask("many", from(0, 1, 1, OUTSIDE));
    }

    /** These can't be refused; they change nothing, and fault() tells what it told. */
    private void withoutNumbers() {
        made.ask("trace");
        made.ask("fault");
    }
}
