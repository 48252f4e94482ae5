/** Promises 20 to 29: sheet, lose, put, cell, copy, tell, ring, as, trace, fault. */
public final class SheetsTest {
    private static final int UNKNOWN = BallMinder.UNKNOWN, OUTSIDE = BallMinder.OUTSIDE;
    private static final long LOST = BallMinder.LOST;

    public static void main(String[] args) {
        Due due = new Due();
        newRows(due);
        losing(due);
        cutToTheLane(due);
        refusalsOfPutAndCell(due);
        copying(due);
        refusalsOfCopy(due);
        tellings(due);
        casts(due);
        faultOfTheLatest(due);
        due.end();
    }

    private static void newRows(Due due) {
        BallMinder b = new BallMinder();
        due.is("sheet", b.sheet(0, 1, 60), 1);
        b.put(0, 59, 7);
        due.is("cell", b.cell(0, 59, 1), 7);
        due.is("a new row", b.sheet(0, 1, 60), 1);
        due.is("is 0 at first", b.cell(0, 59, 1), 0);
        due.is("of no cells", b.sheet(0, 1, 0), 1);
        due.is("has none", b.cell(0, 0, 1), LOST);
        due.is("fault()", b.fault(), 3);
        due.is("sheet 4", b.sheet(4, 3, -1), UNKNOWN);
        due.is("sheet -1", b.sheet(-1, 0, 1), UNKNOWN);
        due.is("lane 3", b.sheet(0, 3, -1), OUTSIDE);
        due.is("lane -1", b.sheet(0, -1, 1), OUTSIDE);
        due.is("61", b.sheet(0, 0, 61), OUTSIDE);
        due.is("fault()", b.fault(), 0);
        due.is("-1", b.sheet(0, 0, -1), -14);
        due.is("the least int", b.sheet(0, 0, Integer.MIN_VALUE), -14);
        due.is("fault()", b.fault(), 4);
        due.is("the lane has not changed", b.cell(0, 0, 0), LOST);
        due.is("fault()", b.fault(), 2);
    }

    private static void losing(Due due) {
        BallMinder b = new BallMinder();
        due.is("nothing", b.lose(2), 0);
        b.sheet(2, 0, 0);
        due.is("a row of no cells", b.lose(2), 1);
        due.is("once more", b.lose(2), 0);
        due.is("sheet 4", b.lose(4), UNKNOWN);
        due.is("sheet -1", b.lose(-1), UNKNOWN);
        due.is("put", b.put(2, 0, 1), -11);
        due.is("lose names no fault", b.lose(2), 0);
        due.is("fault()", b.fault(), 1);
    }

    private static void cutToTheLane(Due due) {
        int[] puts = {127, 128, 255, 256, -129, 32767, 32768, 65535, 65536, -32769, 70001,
            Integer.MAX_VALUE, Integer.MIN_VALUE};
        for (int v : puts) {
            BallMinder b = new BallMinder();
            for (int lane = 0; lane < 3; lane++) {
                b.sheet(lane, lane, 1);
                due.is("put", b.put(lane, 0, v), 1);
            }
            due.is("byte of " + v, b.cell(0, 0, 0), (byte) v);
            due.is("short of " + v, b.cell(1, 0, 1), (short) v);
            due.is("int of " + v, b.cell(2, 0, 2), v);
        }
    }

    private static void refusalsOfPutAndCell(Due due) {
        BallMinder b = new BallMinder();
        due.is("put sheet 4", b.put(4, 0, 1), UNKNOWN);
        due.is("put sheet -1", b.put(-1, 0, 1), UNKNOWN);
        due.is("put into nothing", b.put(0, -1, 1), -11);
        due.is("cell of nothing, as any lane", b.cell(0, -1, 2), LOST);
        due.is("fault()", b.fault(), 1);
        due.is("cell sheet 4", b.cell(4, 0, 0), LOST);
        due.is("fault()", b.fault(), 0);
        b.sheet(0, 2, 3);
        due.is("put -1", b.put(0, -1, 1), -13);
        due.is("put 3", b.put(0, 3, 1), -13);
        due.is("fault()", b.fault(), 3);
        due.is("put 2", b.put(0, 2, 1), 1);
        due.is("fault()", b.fault(), 0);
        due.is("cast ahead of index", b.cell(0, 3, 1), LOST);
        due.is("fault()", b.fault(), 2);
        due.is("index", b.cell(0, 3, 2), LOST);
        due.is("fault()", b.fault(), 3);
        due.is("index -1", b.cell(0, -1, 2), LOST);
        due.is("fault()", b.fault(), 3);
        due.is("lane 3", b.cell(0, 3, 3), LOST);
        due.is("fault()", b.fault(), 0);
    }

    private static void row(Due due, BallMinder b, int k, int lane, int... cells) {
        for (int i = 0; i < cells.length; i++) {
            due.is("cell(" + k + ", " + i + ")", b.cell(k, i, lane), cells[i]);
        }
    }

    private static void copying(Due due) {
        BallMinder b = new BallMinder();
        Texts.lay(b, 0, 1, 1, 2, 3, 4, 5);
        Texts.lay(b, 1, 1, 9, 9, 9);
        due.is("to another", b.copy(0, 1, 1, 0, 2), 2);
        row(due, b, 1, 1, 2, 3, 9);
        row(due, b, 0, 1, 1, 2, 3, 4, 5);
        due.is("upwards", b.copy(0, 0, 0, 1, 4), 4);
        row(due, b, 0, 1, 1, 1, 2, 3, 4);
        due.is("downwards", b.copy(0, 1, 0, 0, 4), 4);
        row(due, b, 0, 1, 1, 2, 3, 4, 4);
        due.is("none at the end", b.copy(0, 5, 1, 3, 0), 0);
        due.is("fault()", b.fault(), 0);
    }

    private static void refusalsOfCopy(Due due) {
        BallMinder b = new BallMinder();
        Texts.lay(b, 0, 1, 1, 2, 3);
        Texts.lay(b, 1, 1, 4, 5);
        Texts.lay(b, 2, 0, 4, 5);
        due.is("sheet 4", b.copy(4, 0, 3, 0, 1), UNKNOWN);
        due.is("other 4", b.copy(3, 0, 4, 0, 1), UNKNOWN);
        due.is("sheet -1", b.copy(-1, 0, 0, 0, 1), UNKNOWN);
        due.is("fault()", b.fault(), 0);
        due.is("of nothing", b.copy(3, -1, 0, 0, 1), -11);
        due.is("to nothing", b.copy(0, -1, 3, 0, 1), -11);
        due.is("fault()", b.fault(), 1);
        due.is("unlike lanes, ahead of index", b.copy(0, -1, 2, 0, 1), -12);
        due.is("fault()", b.fault(), 2);
        int[][] beyond = {{-1, 0, 1}, {0, -1, 1}, {0, 0, -1}, {3, 0, 1}, {0, 2, 1}, {0, 0, 3}, {4, 0, 0}, {0, 3, 0},
            {1, 0, Integer.MAX_VALUE}, {Integer.MAX_VALUE, 0, 1}, {0, Integer.MAX_VALUE, Integer.MAX_VALUE},
            {Integer.MIN_VALUE, 0, Integer.MIN_VALUE}};
        for (int[] c : beyond) {
            due.is("copy(0, " + c[0] + ", 1, " + c[1] + ", " + c[2] + ")", b.copy(0, c[0], 1, c[1], c[2]), -13);
            due.is("fault()", b.fault(), 3);
        }
        row(due, b, 0, 1, 1, 2, 3);
        row(due, b, 1, 1, 4, 5);
    }

    private static void tellings(Due due) {
        BallMinder b = new BallMinder();
        Texts.drawn(b, 0, "w7");
        Texts.drawn(b, 1, "w8");
        Texts.drawn(b, 2, "w9");
        due.is("plain", b.tell(0), 7);
        due.is("trace()", b.trace(), 1);
        due.is("oiled", b.tell(1), 108);
        due.is("trace()", b.trace(), (31 + 2) * 31 + 1);
        due.is("ring of plain", b.ring(0), 0);
        due.is("ring of oiled", b.ring(1), 1);
        int trace = ((31 + 2) * 31 + 1) * 31 * 31 + 4 * 31 + 4;
        due.is("trace()", b.trace(), trace);
        due.is("sticky", b.tell(2), 118);
        for (int body : new int[] {3, 2, 1, 1}) {
            trace = trace * 31 + body;
        }
        due.is("trace()", b.trace(), trace);
        due.is("ring of sticky", b.ring(2), 50);
        trace = trace * 31 + 5;
        due.is("trace()", b.trace(), trace);
        due.is("tell 3", b.tell(3), UNKNOWN);
        due.is("tell -1", b.tell(-1), UNKNOWN);
        due.is("ring 3", b.ring(3), UNKNOWN);
        due.is("ring -1", b.ring(-1), UNKNOWN);
        due.is("a refusal leaves nothing", b.trace(), trace);
    }

    private static void casts(Due due) {
        BallMinder b = new BallMinder();
        for (int kind = 0; kind < 3; kind++) {
            Texts.drawn(b, kind, "w7");
        }
        for (int x = 0; x < 3; x++) {
            for (int kind = 0; kind < 3; kind++) {
                due.is("as(" + x + ", " + kind + ")", b.as(x, kind), kind <= x ? 1 : -12);
                due.is("fault()", b.fault(), kind <= x ? 0 : 2);
            }
        }
        b.as(0, 2);
        due.is("kind 3", b.as(0, 3), OUTSIDE);
        due.is("fault()", b.fault(), 0);
        due.is("kind -1", b.as(0, -1), OUTSIDE);
        due.is("mill 3", b.as(3, 3), UNKNOWN);
        due.is("mill -1", b.as(-1, 0), UNKNOWN);
    }

    private static void faultOfTheLatest(Due due) {
        BallMinder b = new BallMinder();
        Texts.drawn(b, 0, "w7");
        b.sheet(0, 0, -1);
        // none of these names a fault
        b.ofMill(0, 0);
        b.turn(9, 9, 9);
        b.near(0);
        b.far(0, 100, 50, 50, 0);
        b.fits(0, 0, 0, 0);
        b.lose(0);
        b.tell(0);
        b.ring(0);
        b.trace();
        b.many(0);
        due.is("fault()", b.fault(), 4);
        due.is("fault() once more", b.fault(), 4);
        b.sheet(0, 0, 2);
        due.is("none came", b.fault(), 0);
    }
}
