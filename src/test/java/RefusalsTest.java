/**
 * Of each call: the order in which its line tells its refusals and faults, where several are due at once; that a
 * refused call changes nothing; what fault() tells behind it. The rungs are numbered as the call's line tells them.
 */
public final class RefusalsTest {
    private static final int UNKNOWN = BallMinder.UNKNOWN, OUTSIDE = BallMinder.OUTSIDE, STATE = BallMinder.STATE;
    private static final long LOST = BallMinder.LOST;
    private static final int NULL = -11, CAST = -12, INDEX = -13, SIZE = -14;

    private final Due due = new Due();
    private final Mixture made = new Mixture(due, World::made);

    public static void main(String[] args) {
        RefusalsTest test = new RefusalsTest();
        test.mills();
        test.nearRest();
        test.far();
        test.twoShareAndBest();
        test.watched();
        test.rowsOfSheets();
        test.cellsOfSheets();
        test.copies();
        test.parts();
        test.withoutNumbers();
        test.due.end();
    }

    private static Mixture.Choice[] mill(long answer) {
        return Mixture.with(Mixture.rights(0, 1, 2), 1, answer, -1, World.MILLS, 8);
    }

    private static Mixture.Choice[] numbers(int rung, long answer, int least, int greatest) {
        return Mixture.with(Mixture.rights(least, greatest), rung, answer, least - 1, greatest + 1);
    }

    /** UNKNOWN; OUTSIDE: kind, lane; CAST (nothing is no CAST); NULL; SIZE; INDEX; -100 less it; FULL. */
    private void mills() {
        Mixture.Choice[] kind = numbers(2, OUTSIDE, 0, 2);
        Mixture.Choice[] sheet = Mixture.of(Mixture.right(0), Mixture.wrong(1, UNKNOWN, -1), Mixture.wrong(1, UNKNOWN, 4),
            Mixture.wrong(3, CAST, 1), Mixture.wrong(3, CAST, 2), Mixture.wrong(4, NULL, 3));
        Mixture.Choice[] lane = Mixture.with(Mixture.rights(0), 2, OUTSIDE, -1, 3);
        Mixture.Choice[] cells = Mixture.of(Mixture.right(0, 5), Mixture.right(3, 2), Mixture.wrong(5, SIZE, 0, -1),
            Mixture.wrong(5, SIZE, -1, -1), Mixture.wrong(5, SIZE, 6, Integer.MIN_VALUE), Mixture.wrong(6, INDEX, -1, 0),
            Mixture.wrong(6, INDEX, -1, 3), Mixture.wrong(6, INDEX, 6, 0), Mixture.wrong(6, INDEX, 0, 6),
            Mixture.wrong(6, INDEX, 5, 1), Mixture.wrong(6, INDEX, Integer.MAX_VALUE, Integer.MAX_VALUE),
            Mixture.wrong(7, -103, 0, 3), Mixture.wrong(7, -100, 5, 0), Mixture.wrong(7, -101, 3, 1));
        made.ask("mill", kind, sheet, lane, cells);
        new Mixture(due, World::full).askRefused("mill", BallMinder.FULL, kind, sheet, lane, cells);
        made.ask("ofMill", mill(UNKNOWN), numbers(1, UNKNOWN, 0, 9));
        made.ask("turn", mill(UNKNOWN), Mixture.of(Mixture.right(0, 1), Mixture.right(8, 50), Mixture.right(7, 3),
            Mixture.wrong(1, UNKNOWN, -1, 5), Mixture.wrong(1, UNKNOWN, 9, 5), Mixture.wrong(1, UNKNOWN, 9, 1000),
            Mixture.wrong(2, OUTSIDE, 0, 0), Mixture.wrong(2, OUTSIDE, 0, 100), Mixture.wrong(2, OUTSIDE, 1, -1),
            Mixture.wrong(2, OUTSIDE, 7, 4), Mixture.wrong(2, OUTSIDE, 8, 51)));
    }

    private void nearRest() {
        made.ask("row", mill(LOST), numbers(2, LOST, 0, 4));
        made.ask("margin", mill(LOST));
        made.ask("near", mill(UNKNOWN));
        made.ask("line", mill(UNKNOWN), numbers(1, UNKNOWN, 0, 6), numbers(2, OUTSIDE, 0, 2));
        // mill 1 has all the oil there may be
        made.ask("better", Mixture.of(Mixture.right(0, 0), Mixture.right(1, 6), Mixture.right(0, 3),
            Mixture.wrong(1, UNKNOWN, -1, 3), Mixture.wrong(1, UNKNOWN, 3, 3), Mixture.wrong(1, UNKNOWN, 1, 7),
            Mixture.wrong(1, UNKNOWN, 1, -1), Mixture.wrong(2, STATE, 1, 3)));
        made.ask("off", mill(LOST), numbers(2, LOST, -99, 99), numbers(2, LOST, 0, 1));
        made.ask("years", mill(UNKNOWN), numbers(1, UNKNOWN, 0, 6), numbers(2, OUTSIDE, -9, 9));
    }

    private void far() {
        Mixture.Choice[] beat = numbers(2, OUTSIDE, 0, 999);
        Mixture.Choice[] valve = numbers(2, OUTSIDE, 0, 100);
        Mixture.Choice[] load = numbers(2, OUTSIDE, 0, 100);
        Mixture.Choice[] fewMills = Mixture.with(Mixture.rights(1), 1, UNKNOWN, -1, World.MILLS);
        made.ask("far", mill(UNKNOWN), beat, valve, load, numbers(2, OUTSIDE, 0, 4));
        made.ask("after", fewMills, beat, valve, load, numbers(2, OUTSIDE, 0, 300), numbers(2, OUTSIDE, 0, 2));
        made.ask("reach", mill(UNKNOWN));
    }

    private void twoShareAndBest() {
        // mill 1 has SECOND, so that it has no share
        made.ask("two", Mixture.of(Mixture.right(0, 1), Mixture.right(2, 0), Mixture.wrong(1, UNKNOWN, 0, 3),
            Mixture.wrong(1, UNKNOWN, 3, 0), Mixture.wrong(1, UNKNOWN, -1, 0), Mixture.wrong(1, UNKNOWN, 0, -1),
            Mixture.wrong(1, UNKNOWN, 3, 3), Mixture.wrong(1, UNKNOWN, -1, -1), Mixture.wrong(2, OUTSIDE, 0, 0),
            Mixture.wrong(2, OUTSIDE, 2, 2)),
            numbers(2, OUTSIDE, 0, 999), numbers(2, OUTSIDE, 0, 200), numbers(2, OUTSIDE, 0, 6));
        made.ask("share", Mixture.of(Mixture.right(0, 2), Mixture.right(2, 0), Mixture.wrong(1, LOST, 0, 3),
            Mixture.wrong(1, LOST, -1, 0), Mixture.wrong(2, LOST, 0, 0), Mixture.wrong(3, LOST, 0, 1),
            Mixture.wrong(3, LOST, 1, 2)),
            numbers(2, LOST, 0, 1));
        made.ask("best", Mixture.with(Mixture.rights(0, 1, 4, 7), 1, OUTSIDE, 8, 15, 256, -1, Integer.MIN_VALUE),
            numbers(1, OUTSIDE, 0, 100));
    }

    /** UNKNOWN; OUTSIDE: lane; CAST; NULL; SIZE; INDEX; OUTSIDE: n is not 2 .. 30, a BEAT. */
    private void watched() {
        Mixture.Choice[] sheet = Mixture.of(Mixture.right(1), Mixture.wrong(1, UNKNOWN, -1), Mixture.wrong(1, UNKNOWN, 4),
            Mixture.wrong(3, CAST, 0), Mixture.wrong(3, CAST, 2), Mixture.wrong(4, NULL, 3));
        Mixture.Choice[] lane = Mixture.with(Mixture.rights(1), 2, OUTSIDE, -1, 3);
        made.ask("watch", sheet, lane, Mixture.of(Mixture.right(0, 2), Mixture.wrong(5, SIZE, 0, -1),
            Mixture.wrong(5, SIZE, -1, -1), Mixture.wrong(5, SIZE, 5, Integer.MIN_VALUE), Mixture.wrong(6, INDEX, -1, 0),
            Mixture.wrong(6, INDEX, 5, 0), Mixture.wrong(6, INDEX, 0, 5), Mixture.wrong(6, INDEX, 4, 1),
            Mixture.wrong(6, INDEX, 0, 31), Mixture.wrong(6, INDEX, 2, Integer.MAX_VALUE), Mixture.wrong(7, OUTSIDE, 0, 0),
            Mixture.wrong(7, OUTSIDE, 4, 0), Mixture.wrong(7, OUTSIDE, 0, 1), Mixture.wrong(7, OUTSIDE, 0, 3),
            Mixture.wrong(7, OUTSIDE, 2, 2)));
        Mixture.Choice[] number = numbers(1, UNKNOWN, 0, 8);
        Mixture.Choice[] load = numbers(2, OUTSIDE, 0, 100);
        Mixture.Choice[] what = numbers(2, OUTSIDE, 0, 2);
        made.ask("fits", mill(UNKNOWN), number, load, what);
        new Mixture(due, World::unwatched).askRefused("fits", STATE, mill(UNKNOWN), number, load, what);
    }

    private void rowsOfSheets() {
        Mixture.Choice[] sheet = numbers(1, UNKNOWN, 0, 3);
        made.ask("sheet", sheet, numbers(2, OUTSIDE, 0, 2), Mixture.of(Mixture.right(0), Mixture.right(60),
            Mixture.wrong(2, OUTSIDE, 61), Mixture.wrong(2, OUTSIDE, Integer.MAX_VALUE), Mixture.wrong(3, SIZE, -1),
            Mixture.wrong(3, SIZE, Integer.MIN_VALUE)));
        made.ask("lose", sheet);
    }

    private void cellsOfSheets() {
        Mixture.Choice[] place = Mixture.with(Mixture.rights(0, 4), 3, INDEX, -1, 5, Integer.MIN_VALUE, Integer.MAX_VALUE);
        Mixture.Choice[] sheet = Mixture.with(Mixture.of(Mixture.right(0), Mixture.wrong(2, NULL, 3)), 1, UNKNOWN, -1, 4);
        made.ask("put", sheet, place, Mixture.rights(0, -1, Integer.MIN_VALUE, Integer.MAX_VALUE));
        made.ask("cell", Mixture.of(Mixture.right(0), Mixture.lost(1, 0, -1), Mixture.lost(1, 0, 4),
            Mixture.lost(3, 2, 1), Mixture.lost(3, 2, 2), Mixture.lost(4, 1, 3)),
            Mixture.of(Mixture.right(0), Mixture.right(4), Mixture.lost(5, 3, -1), Mixture.lost(5, 3, 5),
                Mixture.lost(5, 3, Integer.MIN_VALUE), Mixture.lost(5, 3, Integer.MAX_VALUE)),
            Mixture.of(Mixture.right(0), Mixture.lost(2, 0, -1), Mixture.lost(2, 0, 3)));
    }

    /** UNKNOWN; NULL (the first, the other), CAST (unlike LANES), INDEX: i, j, n below 0 or beyond. */
    private void copies() {
        Mixture.Choice[] from = Mixture.with(Mixture.of(Mixture.right(0), Mixture.wrong(2, NULL, 3)), 1, UNKNOWN, -1, 4);
        Mixture.Choice[] to = Mixture.with(Mixture.of(Mixture.right(0), Mixture.wrong(2, NULL, 3),
            Mixture.wrong(3, CAST, 1), Mixture.wrong(3, CAST, 2)), 1, UNKNOWN, -1, 4);
        Mixture.Choice[] i = Mixture.with(Mixture.rights(0, 3), 4, INDEX, -1, 6, Integer.MAX_VALUE);
        Mixture.Choice[] n = Mixture.with(Mixture.rights(0, 2), 4, INDEX, -1, 6, Integer.MIN_VALUE, Integer.MAX_VALUE);
        made.ask("copy", from, i, to, i, n);
    }

    private void parts() {
        made.ask("tell", mill(UNKNOWN));
        made.ask("ring", mill(UNKNOWN));
        made.ask("as", Mixture.of(Mixture.right(0), Mixture.right(1), Mixture.right(2), Mixture.wrong(1, UNKNOWN, -1),
            Mixture.wrong(1, UNKNOWN, World.MILLS)),
            Mixture.of(Mixture.right(0), Mixture.wrong(2, OUTSIDE, -1), Mixture.wrong(2, OUTSIDE, 3)));
        made.ask("as", Mixture.of(Mixture.right(1, 1), Mixture.right(2, 2), Mixture.wrong(3, CAST, 0, 1),
            Mixture.wrong(3, CAST, 0, 2), Mixture.wrong(3, CAST, 1, 2)));
        made.ask("many", numbers(1, OUTSIDE, 0, 1));
    }

    /** These can't be refused; they change nothing, and fault() tells what it told. */
    private void withoutNumbers() {
        made.ask("trace");
        made.ask("fault");
    }
}
