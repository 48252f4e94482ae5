/** Promises 1 to 4 and 30: a new object, mill, ofMill, turn, many. */
public final class MillsTest {
    private static final int[] LEAST = {1, 0, 1, 0, 0, 1, 0, 0, 1};
    private static final int[] GREATEST = {99, 20, 99, 99, 99, 99, 20, 3, 50};
    private static final int[] AT_FIRST = {10, 1, 1, 5, 5, 10, 0, 0, 5};
    private static final String LETTERS = "wrbokgids";
    private static final String ALL_NINE = "w1;r2;b3;o4;k5;g6;i7;d3;s9";

    public static void main(String[] args) {
        Due due = new Due();
        newObject(due);
        numbersAtFirstAndDrawn(due);
        firstFaults(due);
        everyLetterAtItsBounds(due);
        lanesAndParts(due);
        refusalsOfMill(due);
        eightAreAll(due);
        turning(due);
        due.end();
    }

    private static void newObject(Due due) {
        BallMinder b = new BallMinder();
        due.is("many(0)", b.many(0), 0);
        due.is("many(1)", b.many(1), 0);
        due.is("many(2)", b.many(2), BallMinder.OUTSIDE);
        due.is("many(-1)", b.many(-1), BallMinder.OUTSIDE);
        due.is("fault()", b.fault(), 0);
        due.is("trace()", b.trace(), 0);
        due.is("ofMill(0, 0)", b.ofMill(0, 0), BallMinder.UNKNOWN);
        for (int k = 0; k < 4; k++) {
            due.is("lose of a new one", b.lose(k), 0);
        }
    }

    private static void numbersAtFirstAndDrawn(Due due) {
        BallMinder b = new BallMinder();
        due.is("mill k7", Texts.drawn(b, 1, "k7"), 0);
        for (int what = 0; what < 9; what++) {
            due.is("ofMill(0, " + what + ")", b.ofMill(0, what), what == 4 ? 7 : AT_FIRST[what]);
        }
        due.is("kind", b.ofMill(0, 9), 1);
        due.is("what 10", b.ofMill(0, 10), BallMinder.UNKNOWN);
        due.is("what -1", b.ofMill(0, -1), BallMinder.UNKNOWN);
        due.is("mill -1", b.ofMill(-1, 0), BallMinder.UNKNOWN);
        due.is("mill 1", b.ofMill(1, 0), BallMinder.UNKNOWN);
        due.is("all nine", Texts.drawn(b, 2, ALL_NINE), 1);
        int[] drawn = {1, 2, 3, 4, 5, 6, 7, 3, 9, 2};
        for (int what = 0; what < 10; what++) {
            due.is("ofMill(1, " + what + ")", b.ofMill(1, what), drawn[what]);
        }
        due.is("any order", Texts.drawn(b, 0, "s50;w09;d0"), 2);
        due.is("s50", b.ofMill(2, 8), 50);
        due.is("w09", b.ofMill(2, 0), 9);
        due.is("many(0)", b.many(0), 3);
    }

    private static void firstFaults(Due due) {
        String[] texts = {"", "x", "5", ";", "w", "wx", "w;", "w5x", "w5;", "w5;;", "w5;5", "w5;w6", "w5;r1;w", "w100",
            "w0", "w00", "w0x", "w0;", "r21", "r210", "r2x", "d4", "d33", "s51", "s0", "b0", "g0", "i21", "W5", "w 5",
            "w5 ", "w5,r1", "w-5", ALL_NINE + ";", ALL_NINE + ";w1", ALL_NINE + "1", ALL_NINE + "11"};
        int[] faults = {0, 0, 0, 0, 1, 1, 1, 2, 3, 3, 3, 3, 6, 3,
            1, 1, 1, 1, 1, 1, 2, 1, 1, 1, 1, 1, 1, 1, 0, 1,
            2, 2, 1, 26, 26, 25, 25};
        for (int k = 0; k < texts.length; k++) {
            BallMinder b = new BallMinder();
            due.is("mill by \"" + texts[k] + "\"", Texts.drawn(b, k % 3, texts[k]), -100 - faults[k]);
            due.is("fault() behind \"" + texts[k] + "\"", b.fault(), 0);
            due.is("many(0)", b.many(0), 0);
        }
        // s9 goes on with a digit that makes it 91, which is not as told; s4 with one that makes it 41
        BallMinder b = new BallMinder();
        due.is("third digit", Texts.drawn(b, 0, "s411"), -103);
    }

    private static void everyLetterAtItsBounds(Due due) {
        for (int k = 0; k < 9; k++) {
            for (int v = 0; v <= 99; v++) {
                BallMinder b = new BallMinder();
                boolean in = v >= LEAST[k] && v <= GREATEST[k];
                String text = LETTERS.charAt(k) + "" + v;
                due.is(text, Texts.drawn(b, 0, text), in ? 0 : -101);
                due.is(text + " drawn", b.ofMill(0, k), in ? v : BallMinder.UNKNOWN);
            }
        }
    }

    private static void lanesAndParts(Due due) {
        for (int lane = 0; lane < 3; lane++) {
            BallMinder b = new BallMinder();
            Texts.lay(b, 2, lane, Texts.codes("xxw42;o9xx"));
            due.is("part", b.mill(0, 2, lane, 2, 6), 0);
            due.is("w", b.ofMill(0, 0), 42);
            due.is("o", b.ofMill(0, 3), 9);
            due.is("its first part", b.mill(0, 2, lane, 2, 2), 1);
            due.is("w", b.ofMill(1, 0), 4);
            due.is("none of it", b.mill(0, 2, lane, 10, 0), -100);
            due.is("fault()", b.fault(), 0);
        }
        BallMinder b = new BallMinder();
        Texts.lay(b, 0, 2, 119 + 256, 53);
        due.is("an int is not cut when it is read", b.mill(0, 0, 2, 0, 2), -100);
        Texts.lay(b, 0, 0, 119 + 256, 53);
        due.is("a byte was cut when it was put", b.mill(0, 0, 0, 0, 2), 0);
    }

    private static void refusalsOfMill(Due due) {
        BallMinder b = new BallMinder();
        due.is("sheet 4", b.mill(9, 4, 9, -1, -1), BallMinder.UNKNOWN);
        due.is("sheet -1", b.mill(0, -1, 0, 0, 1), BallMinder.UNKNOWN);
        due.is("kind 3", b.mill(3, 0, 0, -1, -1), BallMinder.OUTSIDE);
        due.is("kind -1", b.mill(-1, 0, 0, -1, -1), BallMinder.OUTSIDE);
        due.is("lane 3", b.mill(0, 0, 3, -1, -1), BallMinder.OUTSIDE);
        due.is("lane -1", b.mill(0, 0, -1, -1, -1), BallMinder.OUTSIDE);
        due.is("fault()", b.fault(), 0);
        due.is("nothing", b.mill(0, 0, 2, -1, -1), -11);
        due.is("fault()", b.fault(), 1);
        Texts.lay(b, 0, 0, Texts.codes("w5"));
        due.is("cast", b.mill(0, 0, 1, -1, -1), -12);
        due.is("fault()", b.fault(), 2);
        due.is("size", b.mill(0, 0, 0, -1, -1), -14);
        due.is("fault()", b.fault(), 4);
        due.is("index below", b.mill(0, 0, 0, -1, 1), -13);
        due.is("index below, none taken", b.mill(0, 0, 0, -1, 0), -13);
        due.is("index beyond, none taken", b.mill(0, 0, 0, 3, 0), -13);
        due.is("too many", b.mill(0, 0, 0, 1, 2), -13);
        due.is("far too many", b.mill(0, 0, 0, 2, Integer.MAX_VALUE), -13);
        due.is("far beyond", b.mill(0, 0, 0, Integer.MAX_VALUE, Integer.MAX_VALUE), -13);
        due.is("fault()", b.fault(), 3);
        due.is("all right", b.mill(0, 0, 0, 0, 2), 0);
        due.is("fault()", b.fault(), 0);
    }

    private static void eightAreAll(Due due) {
        BallMinder b = new BallMinder();
        for (int k = 0; k < 8; k++) {
            due.is("mill " + k, Texts.drawn(b, k % 3, "w" + (k + 1)), k);
        }
        due.is("the ninth", Texts.drawn(b, 0, "w5"), BallMinder.FULL);
        due.is("fault()", b.fault(), 0);
        due.is("a wrong ninth", Texts.drawn(b, 0, "w5;"), -103);
        due.is("many(0)", b.many(0), 8);
        for (int k = 0; k < 8; k++) {
            due.is("wheel", b.ofMill(k, 0), k + 1);
            due.is("kind", b.ofMill(k, 9), k % 3);
        }
        due.is("mill 8", b.ofMill(8, 0), BallMinder.UNKNOWN);
    }

    private static void turning(Due due) {
        BallMinder b = new BallMinder();
        Texts.drawn(b, 0, "w5");
        Texts.drawn(b, 1, "w5");
        due.is("turn what 9", b.turn(0, 9, 1), BallMinder.UNKNOWN);
        due.is("turn what -1", b.turn(0, -1, 1), BallMinder.UNKNOWN);
        due.is("turn mill 2", b.turn(2, 0, 1000), BallMinder.UNKNOWN);
        due.is("turn mill -1", b.turn(-1, 0, 1), BallMinder.UNKNOWN);
        for (int k = 0; k < 9; k++) {
            int was = k == 0 ? 5 : AT_FIRST[k];
            due.is("below", b.turn(0, k, LEAST[k] - 1), BallMinder.OUTSIDE);
            due.is("beyond", b.turn(0, k, GREATEST[k] + 1), BallMinder.OUTSIDE);
            due.is("to the least", b.turn(0, k, LEAST[k]), was);
            due.is("to the greatest", b.turn(0, k, GREATEST[k]), LEAST[k]);
            due.is("it is", b.ofMill(0, k), GREATEST[k]);
            due.is("the other stays", b.ofMill(1, k), was);
        }
    }
}
