/**
 * A state in which all that a call could change is something: three mills, one of each kind; on sheet 0 bytes
 * ("w5;g9"), on 1 shorts, on 2 ints, on 3 nothing; two beats watched; a trace; SIZE as the latest fault.
 */
final class World {
    /** What fault() tells in it. */
    static final int FAULT = 4;
    static final int MILLS = 3;
    private static final int[] TEXT = {119, 53, 59, 103, 57};
    private static final int[] SHORTS = {110, 90, 1000, -1};
    private static final int[] INTS = {100, 70001, Integer.MIN_VALUE};
    private static final int MOST_CELLS = TEXT.length;

    private World() {
    }

    /** Of a BallMinder or a Plainly that is new. */
    static <T> T made(T b) {
        return ended(watched(begun(b)));
    }

    static <T> T unwatched(T b) {
        return ended(begun(b));
    }

    static <T> T full(T b) {
        watched(begun(b));
        for (int k = MILLS; k < 8; k++) {
            Calls.ask(b, "mill", k % 3, 0, 0, 0, 2);
        }
        return ended(b);
    }

    private static <T> T begun(T b) {
        lay(b, 0, 0, TEXT);
        lay(b, 1, 1, SHORTS);
        lay(b, 2, 2, INTS);
        for (int kind = 0; kind < MILLS; kind++) {
            Calls.ask(b, "mill", kind, 0, 0, 0, TEXT.length);
        }
        Calls.ask(b, "turn", 1, 3, 99);
        Calls.ask(b, "turn", 1, 6, 2);
        Calls.ask(b, "tell", 2);
        return b;
    }

    private static <T> T watched(T b) {
        Calls.ask(b, "watch", 1, 1, 0, 2);
        return b;
    }

    private static <T> T ended(T b) {
        Calls.ask(b, "sheet", 3, 0, -1);
        return b;
    }

    private static void lay(Object b, int k, int lane, int[] cells) {
        Calls.ask(b, "sheet", k, lane, cells.length);
        for (int i = 0; i < cells.length; i++) {
            Calls.ask(b, "put", k, i, cells[i]);
        }
    }

    /** All that can be told of it but fault(), which the look itself changes. */
    static long[] look(Object b) {
        Look look = new Look(b);
        look.at("many", 0);
        look.at("many", 1);
        look.at("trace");
        for (int x = 0; x < 8; x++) {
            for (int what = 0; what < 10; what++) {
                look.at("ofMill", x, what);
            }
        }
        for (int number : new int[] {0, 5}) {
            for (int what = 0; what < 3; what++) {
                look.at("fits", 0, number, 50, what);
            }
        }
        for (int k = 0; k < 4; k++) {
            for (int lane = 0; lane < 3; lane++) {
                for (int i = MOST_CELLS; i >= 0; i--) {
                    look.at("cell", k, i, lane);
                }
                look.at("fault");
            }
        }
        return look.seen();
    }

    private static final class Look {
        private final Object of;
        private final long[] seen = new long[256];
        private int count;

        Look(Object of) {
            this.of = of;
        }

        void at(String name, int... numbers) {
            seen[count] = Calls.ask(of, name, numbers);
            count++;
        }

        long[] seen() {
            return java.util.Arrays.copyOf(seen, count);
        }
    }
}
