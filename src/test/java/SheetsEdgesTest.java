/** The edges that the document names in section 5 and promises 20 to 30; above each test the sentence it holds to. */
public final class SheetsEdgesTest {
    private static final int OUTSIDE = BallMinder.OUTSIDE, UNKNOWN = BallMinder.UNKNOWN;
    private static final long LOST = BallMinder.LOST;
    private static final int NULL = 1, CAST = 2, INDEX = 3, SIZE = 4;

    private final Due due = new Due();

    public static void main(String[] args) {
        SheetsEdgesTest test = new SheetsEdgesTest();
        test.fourSheets();
        test.rowsOfNoneToSixty();
        test.nothingAtFirstInARow();
        test.refusedRowsLeaveTheOldOne();
        test.losing();
        test.cutToItsLane();
        test.firstAndLastCell();
        test.aRowOfNoCells();
        test.takenAsAnotherLane();
        test.nothingIsNoCast();
        test.copyOfNone();
        test.copyOfAll();
        test.copyAsTheyWere();
        test.copyBeyond();
        test.copyOfUnlikeLanes();
        test.copyOfNothing();
        test.copyOfALaneThatIsLikeAgain();
        test.tellingOfEachKind();
        test.traceWraps();
        test.refusedTellingsLeaveNoTrace();
        test.takenAsAKind();
        test.faultOfEachCall();
        test.callsThatNameNoFault();
        test.howMany();
        test.due.end();
    }

    private void fault(BallMinder b, int want) {
        due.is("fault()", b.fault(), want);
    }

    private void row(BallMinder b, int k, int lane, int... cells) {
        for (int i = 0; i < cells.length; i++) {
            due.is(Calls.told("cell", k, i, lane), b.cell(k, i, lane), cells[i]);
        }
        due.is("no cell behind", b.cell(k, cells.length, lane), LOST);
        fault(b, INDEX);
    }

    /** SHEETS 0 .. 3. */
    private void fourSheets() {
        BallMinder b = new BallMinder();
        for (int k = 0; k < 4; k++) {
            due.is("sheet " + k, b.sheet(k, k % 3, k + 1), 1);
            due.is("put " + k, b.put(k, k, 10 + k), 1);
        }
        for (int k = 0; k < 4; k++) {
            due.is("cell of " + k, b.cell(k, k, k % 3), 10 + k);
            due.is("no cell behind", b.cell(k, k + 1, k % 3), LOST);
        }
        for (int wrong : new int[] {-1, 4, Integer.MIN_VALUE, Integer.MAX_VALUE}) {
            due.is("sheet " + wrong, b.sheet(wrong, 0, 1), UNKNOWN);
            due.is("lose " + wrong, b.lose(wrong), UNKNOWN);
            due.is("put " + wrong, b.put(wrong, 0, 1), UNKNOWN);
            due.is("cell " + wrong, b.cell(wrong, 0, 0), LOST);
            fault(b, 0);
            due.is("copy of " + wrong, b.copy(wrong, 0, 0, 0, 0), UNKNOWN);
            due.is("copy to " + wrong, b.copy(0, 0, wrong, 0, 0), UNKNOWN);
            due.is("mill by " + wrong, b.mill(0, wrong, 0, 0, 1), UNKNOWN);
            due.is("watch of " + wrong, b.watch(wrong, 0, 0, 2), UNKNOWN);
        }
        for (int k = 0; k < 4; k++) {
            due.is("lose " + k, b.lose(k), 1);
        }
    }

    /** A row of 0 .. 60 numbers. OUTSIDE: lane, n above 60; SIZE. */
    private void rowsOfNoneToSixty() {
        for (int lane = 0; lane < 3; lane++) {
            BallMinder b = new BallMinder();
            for (int n = 0; n <= 60; n++) {
                due.is("a row of " + n, b.sheet(2, lane, n), 1);
                due.is("its last cell", b.put(2, n - 1, 7), n == 0 ? -13 : 1);
                due.is("no cell behind", b.put(2, n, 7), -13);
            }
            for (int n : new int[] {61, 62, 100, Integer.MAX_VALUE}) {
                due.is("a row of " + n, b.sheet(2, lane, n), OUTSIDE);
                fault(b, 0);
            }
            for (int n : new int[] {-1, -2, Integer.MIN_VALUE}) {
                due.is("a row of " + n, b.sheet(2, lane, n), -14);
                fault(b, SIZE);
            }
        }
        BallMinder b = new BallMinder();
        for (int lane : new int[] {-1, 3, Integer.MIN_VALUE, Integer.MAX_VALUE}) {
            due.is("lane " + lane, b.sheet(0, lane, 1), OUTSIDE);
            due.is("lane " + lane + " ahead of a size", b.sheet(0, lane, -1), OUTSIDE);
            fault(b, 0);
        }
        due.is("there still is nothing", b.lose(0), 0);
    }

    /** Numbers (0 at first). A SHEET gets a new row. */
    private void nothingAtFirstInARow() {
        BallMinder b = new BallMinder();
        for (int lane = 0; lane < 3; lane++) {
            b.sheet(1, lane, 60);
            for (int i = 0; i < 60; i++) {
                due.is("cell " + i, b.cell(1, i, lane), 0);
                b.put(1, i, i + 1);
            }
        }
        b.sheet(1, 2, 3);
        row(b, 1, 2, 0, 0, 0);
        b.put(1, 2, 9);
        b.lose(1);
        b.sheet(1, 2, 4);
        row(b, 1, 2, 0, 0, 0, 0);
    }

    private void refusedRowsLeaveTheOldOne() {
        BallMinder b = new BallMinder();
        Texts.lay(b, 0, 1, 300, -300);
        due.is("61", b.sheet(0, 1, 61), OUTSIDE);
        due.is("lane 3", b.sheet(0, 3, 2), OUTSIDE);
        due.is("-1", b.sheet(0, 0, -1), -14);
        row(b, 0, 1, 300, -300);
    }

    /** A SHEET has nothing: 1; 0: it had nothing. */
    private void losing() {
        BallMinder b = new BallMinder();
        for (int k = 0; k < 4; k++) {
            due.is("it had nothing", b.lose(k), 0);
            b.sheet(k, 0, k == 0 ? 0 : 60);
            due.is("it had a row", b.lose(k), 1);
            due.is("it had nothing again", b.lose(k), 0);
            due.is("put", b.put(k, 0, 1), -11);
            due.is("cell", b.cell(k, 0, 0), LOST);
            fault(b, NULL);
        }
    }

    /** What comes to a cell of it is cut to its LANE. */
    private void cutToItsLane() {
        int[] puts = {127, 128, -128, -129, 255, 256, 32767, 32768, -32768, -32769, 65535, 65536, Integer.MAX_VALUE,
            Integer.MIN_VALUE};
        int[] bytes = {127, -128, -128, 127, -1, 0, -1, 0, 0, -1, -1, 0, -1, 0};
        int[] shorts = {127, 128, -128, -129, 255, 256, 32767, -32768, -32768, 32767, -1, 0, -1, 0};
        int[][] lanes = {bytes, shorts, puts};
        for (int lane = 0; lane < 3; lane++) {
            BallMinder b = new BallMinder();
            b.sheet(0, lane, puts.length);
            for (int i = 0; i < puts.length; i++) {
                due.is("put", b.put(0, i, puts[i]), 1);
            }
            row(b, 0, lane, lanes[lane]);
        }
    }

    /** INDEX. */
    private void firstAndLastCell() {
        for (int n : new int[] {1, 2, 60}) {
            BallMinder b = new BallMinder();
            b.sheet(0, 2, n);
            due.is("put to the first", b.put(0, 0, 5), 1);
            due.is("put to the last", b.put(0, n - 1, 6), 1);
            fault(b, 0);
            due.is("the first", b.cell(0, 0, 2), n == 1 ? 6 : 5);
            due.is("the last", b.cell(0, n - 1, 2), 6);
            fault(b, 0);
            for (int i : new int[] {-1, n, n + 1, 61, Integer.MIN_VALUE, Integer.MAX_VALUE}) {
                due.is("put to " + i, b.put(0, i, 7), -13);
                fault(b, INDEX);
                b.sheet(1, 0, 0);
                due.is("cell " + i, b.cell(0, i, 2), LOST);
                fault(b, INDEX);
            }
            due.is("the first stays", b.cell(0, 0, 2), n == 1 ? 6 : 5);
            due.is("the last stays", b.cell(0, n - 1, 2), 6);
        }
    }

    private void aRowOfNoCells() {
        BallMinder b = new BallMinder();
        b.sheet(0, 0, 0);
        due.is("put", b.put(0, 0, 1), -13);
        due.is("cell", b.cell(0, 0, 0), LOST);
        fault(b, INDEX);
        due.is("copy of none", b.copy(0, 0, 0, 0, 0), 0);
        fault(b, 0);
        due.is("copy from 1 on", b.copy(0, 1, 0, 0, 0), -13);
        due.is("copy to 1 on", b.copy(0, 0, 0, 1, 0), -13);
        due.is("copy of one", b.copy(0, 0, 0, 0, 1), -13);
        due.is("lose", b.lose(0), 1);
    }

    /** CAST: it is of another LANE. */
    private void takenAsAnotherLane() {
        BallMinder b = new BallMinder();
        for (int lane = 0; lane < 3; lane++) {
            Texts.lay(b, lane, lane, Texts.codes("w5"));
        }
        for (int k = 0; k < 3; k++) {
            for (int lane = 0; lane < 3; lane++) {
                boolean like = k == lane;
                due.is(Calls.told("cell", k, 0, lane), b.cell(k, 0, lane), like ? 119 : LOST);
                fault(b, like ? 0 : CAST);
                due.is("cast ahead of the index", b.cell(k, -1, lane), LOST);
                fault(b, like ? INDEX : CAST);
                due.is(Calls.told("mill", 0, k, lane, 0, 2), b.mill(0, k, lane, 0, 2), like ? k : -12);
                fault(b, like ? 0 : CAST);
                due.is(Calls.told("watch", k, lane, 0, 2), b.watch(k, lane, 0, 2), like ? 2 : -12);
                fault(b, like ? 0 : CAST);
            }
        }
    }

    /** CAST (nothing is no CAST), NULL. */
    private void nothingIsNoCast() {
        BallMinder b = new BallMinder();
        for (int lane = 0; lane < 3; lane++) {
            due.is("cell of nothing", b.cell(0, 0, lane), LOST);
            fault(b, NULL);
            due.is("mill by nothing", b.mill(0, 0, lane, 0, -1), -11);
            fault(b, NULL);
            due.is("watch of nothing", b.watch(0, lane, 0, -1), -11);
            fault(b, NULL);
            // what it had once does not count
            b.sheet(0, (lane + 1) % 3, 1);
            b.lose(0);
        }
    }

    /** n cells: none, if n is 0; i and j are still looked at. */
    private void copyOfNone() {
        BallMinder b = new BallMinder();
        Texts.lay(b, 0, 0, 1, 2, 3);
        Texts.lay(b, 1, 0, 4, 5);
        for (int i = -1; i <= 4; i++) {
            for (int j = -1; j <= 3; j++) {
                boolean fine = i >= 0 && i <= 3 && j >= 0 && j <= 2;
                due.is(Calls.told("copy", 0, i, 1, j, 0), b.copy(0, i, 1, j, 0), fine ? 0 : -13);
                fault(b, fine ? 0 : INDEX);
            }
        }
        row(b, 0, 0, 1, 2, 3);
        row(b, 1, 0, 4, 5);
    }

    private void copyOfAll() {
        for (int lane = 0; lane < 3; lane++) {
            BallMinder b = new BallMinder();
            b.sheet(0, lane, 60);
            b.sheet(1, lane, 60);
            for (int i = 0; i < 60; i++) {
                b.put(0, i, i - 30);
            }
            due.is("all 60", b.copy(0, 0, 1, 0, 60), 60);
            due.is("one more", b.copy(0, 0, 1, 0, 61), -13);
            due.is("all 60 to themselves", b.copy(0, 0, 0, 0, 60), 60);
            due.is("the last", b.copy(0, 59, 1, 0, 1), 1);
            due.is("one behind the last", b.copy(0, 60, 1, 0, 1), -13);
            due.is("to the last", b.copy(0, 0, 1, 59, 1), 1);
            due.is("to one behind the last", b.copy(0, 0, 1, 60, 1), -13);
            for (int i = 0; i < 60; i++) {
                due.is("from " + i, b.cell(0, i, lane), i - 30);
                due.is("to " + i, b.cell(1, i, lane), i == 0 ? 29 : i == 59 ? -30 : i - 30);
            }
        }
    }

    /** (perhaps the same) .. as they were. */
    private void copyAsTheyWere() {
        for (int lane = 0; lane < 3; lane++) {
            for (int by = 1; by <= 5; by++) {
                BallMinder b = new BallMinder();
                Texts.lay(b, 0, lane, 1, 2, 3, 4, 5, 6);
                due.is("up by " + by, b.copy(0, 0, 0, by, 6 - by), 6 - by);
                Texts.lay(b, 1, lane, 1, 2, 3, 4, 5, 6);
                due.is("down by " + by, b.copy(1, by, 1, 0, 6 - by), 6 - by);
                for (int i = 0; i < 6; i++) {
                    due.is("up, cell " + i, b.cell(0, i, lane), i < by ? i + 1 : i + 1 - by);
                    due.is("down, cell " + i, b.cell(1, i, lane), i < 6 - by ? i + 1 + by : i + 1);
                }
            }
        }
    }

    /** INDEX: i, j, n below 0 or beyond. */
    private void copyBeyond() {
        int most = Integer.MAX_VALUE;
        int least = Integer.MIN_VALUE;
        int[][] beyond = {{-1, 0, 1}, {0, -1, 1}, {0, 0, -1}, {4, 0, 0}, {0, 3, 0}, {3, 0, 1}, {0, 2, 1}, {2, 0, 2},
            {0, 1, 2}, {0, 0, 3}, {0, 0, 4}, {most, 0, 1}, {0, most, 1}, {0, 0, most}, {1, 0, most}, {0, 1, most},
            {most, most, most}, {least, 0, 1}, {0, least, 1}, {0, 0, least}, {least, least, least}, {-1, -1, -1},
            {3, 2, least}, {least, 0, most}, {-1, 0, 2}, {0, -1, 2}};
        for (int[] w : beyond) {
            BallMinder b = new BallMinder();
            Texts.lay(b, 0, 2, 1, 2, 3);
            Texts.lay(b, 1, 2, 4, 5);
            due.is(Calls.told("copy", 0, w[0], 1, w[1], w[2]), b.copy(0, w[0], 1, w[1], w[2]), -13);
            fault(b, INDEX);
            row(b, 0, 2, 1, 2, 3);
            row(b, 1, 2, 4, 5);
        }
        BallMinder b = new BallMinder();
        Texts.lay(b, 0, 2, 1, 2, 3);
        Texts.lay(b, 1, 2, 4, 5);
        due.is("to the end of both", b.copy(0, 1, 1, 0, 2), 2);
        row(b, 1, 2, 2, 3);
    }

    /** CAST (unlike LANES), where none is taken, too. */
    private void copyOfUnlikeLanes() {
        BallMinder b = new BallMinder();
        for (int lane = 0; lane < 3; lane++) {
            Texts.lay(b, lane, lane, 7, 8);
        }
        for (int k = 0; k < 3; k++) {
            for (int other = 0; other < 3; other++) {
                due.is("none", b.copy(k, 0, other, 0, 0), k == other ? 0 : -12);
                fault(b, k == other ? 0 : CAST);
                due.is("beyond", b.copy(k, 3, other, 0, 0), k == other ? -13 : -12);
            }
        }
        for (int lane = 0; lane < 3; lane++) {
            row(b, lane, lane, 7, 8);
        }
    }

    /** NULL (the first, the other). */
    private void copyOfNothing() {
        BallMinder b = new BallMinder();
        Texts.lay(b, 0, 2, 7, 8);
        for (int n : new int[] {-1, 0, 1, 61}) {
            due.is("of nothing", b.copy(1, 0, 0, 0, n), -11);
            due.is("to nothing", b.copy(0, 0, 1, 0, n), -11);
            due.is("of nothing to nothing", b.copy(1, 0, 2, 0, n), -11);
            due.is("of nothing to itself", b.copy(1, 0, 1, 0, n), -11);
            fault(b, NULL);
            due.is("of nothing to none", b.copy(1, 0, 4, 0, n), UNKNOWN);
            fault(b, 0);
        }
        row(b, 0, 2, 7, 8);
    }

    private void copyOfALaneThatIsLikeAgain() {
        BallMinder b = new BallMinder();
        Texts.lay(b, 0, 0, 7);
        Texts.lay(b, 1, 1, 8);
        due.is("unlike", b.copy(0, 0, 1, 0, 1), -12);
        b.sheet(1, 0, 1);
        due.is("like", b.copy(0, 0, 1, 0, 1), 1);
        row(b, 1, 0, 7);
    }

    /** PLAIN (1): its WHEEL. OILED (2): what PLAIN's gives, and 100. STICKY (3): OILED's and PLAIN's. */
    private void tellingOfEachKind() {
        for (int wheel : new int[] {1, 99}) {
            BallMinder b = new BallMinder();
            int trace = 0;
            int[][] bodies = {{1}, {2, 1}, {3, 2, 1, 1}};
            int[] told = {wheel, wheel + 100, wheel + 100 + wheel};
            for (int kind = 0; kind < 3; kind++) {
                Texts.drawn(b, kind, "w" + wheel);
                due.is("tell", b.tell(kind), told[kind]);
                trace = behind(trace, bodies[kind]);
                due.is("trace()", b.trace(), trace);
                due.is("ring", b.ring(kind), kind == 2 ? 50 : kind);
                trace = behind(trace, kind == 2 ? 5 : 4);
                due.is("trace()", b.trace(), trace);
            }
        }
    }

    private static int behind(int trace, int... bodies) {
        int now = trace;
        for (int body : bodies) {
            now = 31 * now + body;
        }
        return now;
    }

    /** TRACE (an int that wraps, 0 at first). */
    private void traceWraps() {
        BallMinder b = new BallMinder();
        Texts.drawn(b, 0, "w7");
        // 31 to the power 6 is 887503681, the seventh is beyond an int
        int[] traces = {1, 32, 993, 30784, 954305, 29583456, 917087137, -1635069824};
        for (int k = 0; k < traces.length; k++) {
            due.is("tell", b.tell(0), 7);
            due.is("trace() behind " + (k + 1), b.trace(), traces[k]);
        }
        int trace = traces[traces.length - 1];
        for (int k = 0; k < 200; k++) {
            b.ring(0);
            trace = behind(trace, 4);
            due.is("trace()", b.trace(), trace);
        }
    }

    private void refusedTellingsLeaveNoTrace() {
        BallMinder b = new BallMinder();
        Texts.drawn(b, 0, "w7");
        for (int wrong : new int[] {-1, 1, 8, Integer.MIN_VALUE, Integer.MAX_VALUE}) {
            due.is("tell", b.tell(wrong), UNKNOWN);
            due.is("ring", b.ring(wrong), UNKNOWN);
            due.is("as", b.as(wrong, 0), UNKNOWN);
        }
        due.is("trace()", b.trace(), 0);
        b.tell(0);
        b.as(0, 2);
        b.as(0, 0);
        due.is("taking it as a kind leaves none", b.trace(), 1);
    }

    /** A MILL, taken as one of a kind: 1. OUTSIDE; CAST: it is none. */
    private void takenAsAKind() {
        BallMinder b = new BallMinder();
        int[][] due3 = {{1, -12, -12}, {1, 1, -12}, {1, 1, 1}};
        for (int x = 0; x < 3; x++) {
            Texts.drawn(b, x, "w7");
            for (int kind = 0; kind < 3; kind++) {
                due.is(Calls.told("as", x, kind), b.as(x, kind), due3[x][kind]);
                fault(b, due3[x][kind] == 1 ? 0 : CAST);
            }
            for (int wrong : new int[] {-1, 3, Integer.MIN_VALUE, Integer.MAX_VALUE}) {
                due.is(Calls.told("as", x, wrong), b.as(x, wrong), OUTSIDE);
                fault(b, 0);
            }
            due.is("it stays of its kind", b.ofMill(x, 9), x);
        }
    }

    /** The FAULT of the latest call that names one: 0: it came to none, or was refused. */
    private void faultOfEachCall() {
        faulting("mill", new int[] {0, 0, 1, 0, 2}, CAST, new int[] {0, 4, 0, 0, 2}, new int[] {0, 0, 0, 0, 2});
        faulting("mill", new int[] {0, 0, 0, 0, -1}, SIZE, new int[] {3, 0, 0, 0, 2}, new int[] {0, 0, 0, 0, 1});
        faulting("watch", new int[] {0, 0, 3, 0}, INDEX, new int[] {0, 3, 0, 2}, new int[] {0, 0, 0, 2});
        faulting("watch", new int[] {3, 0, 0, 2}, NULL, new int[] {0, 0, 0, 1}, new int[] {0, 0, 0, 2});
        faulting("sheet", new int[] {1, 0, -1}, SIZE, new int[] {1, 0, 61}, new int[] {1, 0, 60});
        faulting("put", new int[] {3, 0, 1}, NULL, new int[] {4, 0, 1}, new int[] {0, 0, 119});
        faulting("put", new int[] {0, 2, 1}, INDEX, new int[] {-1, 0, 1}, new int[] {0, 0, 119});
        faulting("cell", new int[] {0, 0, 2}, CAST, new int[] {0, 0, 3}, new int[] {0, 0, 0});
        faulting("cell", new int[] {3, 0, 2}, NULL, new int[] {4, 0, 0}, new int[] {0, 1, 0});
        faulting("copy", new int[] {0, 0, 3, 0, 1}, NULL, new int[] {0, 0, 4, 0, 1}, new int[] {0, 0, 0, 1, 1});
        faulting("copy", new int[] {0, 0, 0, 1, 2}, INDEX, new int[] {4, 0, 0, 0, 1}, new int[] {0, 0, 0, 0, 2});
        faulting("as", new int[] {0, 1}, CAST, new int[] {0, 3}, new int[] {0, 0});
    }

    /** It faults, is refused, faults again, and comes to none. */
    private void faulting(String name, int[] wrong, int fault, int[] refused, int[] right) {
        BallMinder b = new BallMinder();
        Texts.lay(b, 0, 0, Texts.codes("w5"));
        b.mill(0, 0, 0, 0, 2);
        for (int k = 0; k < 2; k++) {
            long answer = Calls.ask(b, name, wrong);
            due.is(Calls.told(name, wrong), answer, name.equals("cell") ? LOST : -10 - fault);
            fault(b, fault);
            fault(b, fault);
            int[] next = k == 0 ? refused : right;
            Calls.ask(b, name, next);
            due.is("fault() behind " + Calls.told(name, next), b.fault(), 0);
        }
    }

    /** The latest call THAT NAMES ONE: the others leave it as it is, refused or not. */
    private void callsThatNameNoFault() {
        String[] names = {"ofMill", "turn", "row", "margin", "near", "line", "better", "off", "years", "far", "after",
            "reach", "two", "share", "best", "fits", "lose", "tell", "ring", "trace", "many", "fault"};
        for (String name : names) {
            for (int number : new int[] {0, 1, -1, 1000}) {
                BallMinder b = World.made(new BallMinder());
                int[] numbers = new int[Calls.numbersOf(name)];
                java.util.Arrays.fill(numbers, number);
                Calls.ask(b, name, numbers);
                due.is("fault() behind " + Calls.told(name, numbers), b.fault(), World.FAULT);
            }
        }
    }

    /** How many: 0 MILLS, 1 BEATS WATCHED. OUTSIDE. */
    private void howMany() {
        BallMinder b = new BallMinder();
        for (int wrong : new int[] {-1, 2, Integer.MIN_VALUE, Integer.MAX_VALUE}) {
            due.is("many(" + wrong + ")", b.many(wrong), OUTSIDE);
        }
        due.is("no mills", b.many(0), 0);
        due.is("no beats", b.many(1), 0);
        Texts.drawn(b, 0, "w5");
        due.is("a mill", b.many(0), 1);
        due.is("no beats", b.many(1), 0);
        Texts.watched(b, 1, 2, 3);
        due.is("a mill", b.many(0), 1);
        due.is("three beats", b.many(1), 3);
    }
}
