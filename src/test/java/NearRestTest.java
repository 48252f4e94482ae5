/** Promises 5 to 11: row, margin, near, line, better, off, years. */
public final class NearRestTest {
    private static final int UNKNOWN = BallMinder.UNKNOWN, OUTSIDE = BallMinder.OUTSIDE, NONE = BallMinder.NONE;
    private static final long LOST = BallMinder.LOST;

    public static void main(String[] args) {
        Due due = new Due();
        rowsAndMargins(due);
        nears(due);
        lines(due);
        betters(due);
        offs(due);
        yearsOfWear(due);
        due.end();
    }

    private static BallMinder with(String text) {
        BallMinder b = new BallMinder();
        Texts.drawn(b, 0, text);
        return b;
    }

    private static void rowsAndMargins(Due due) {
        BallMinder b = with("w2;r3;b5;o7;k11;g13");
        long[] plain = {3 * 11 + 13, 2 * 11 + 3 * 7, 2 * 7 + 3 * 5, 2 * 5, 0};
        for (int k = 0; k < 5; k++) {
            due.is("row(0, " + k + ")", b.row(0, k), plain[k]);
        }
        due.is("margin", b.margin(0), 29L * 43 - 10L * 46);
        b.turn(0, 6, 17);
        long[] second = {17, 46, 43, 29, 10};
        for (int k = 0; k < 5; k++) {
            due.is("row(0, " + k + ") with SECOND", b.row(0, k), second[k]);
        }
        due.is("margin with SECOND", b.margin(0), 29L * 43 * 46 - 10L * 46 * 46 - 29L * 29 * 17);
        due.is("row k 5", b.row(0, 5), LOST);
        due.is("row k -1", b.row(0, -1), LOST);
        due.is("row mill 1", b.row(1, 0), LOST);
        due.is("margin mill 1", b.margin(1), LOST);
        due.is("margin mill -1", b.margin(-1), LOST);
        b = with("w99;r20;b99;o99;k99;g99;i20");
        long a3 = 99 * 99 + 20 * 99, a2 = a3, a1 = 20 * 99 + 99;
        due.is("beyond an int", b.margin(0), a3 * a2 * a1 - 9801 * a1 * a1 - a3 * a3 * 20);
    }

    private static void nears(Due due) {
        BallMinder b = with("w1;r0;b1;o1;k1;g1");
        due.is("margin is 0", b.near(0), 1);
        b.turn(0, 4, 2);
        due.is("margin above", b.near(0), 2);
        b.turn(0, 5, 99);
        due.is("margin below", b.near(0), 0);
        b = with("r0;o0;k0");
        due.is("a sum is 0", b.near(0), 0);
        // a2 = 0 with SECOND, margin = - a4 a1 a1 - a3 a3 a0 below 0
        b = with("r0;o3;k0;i1");
        due.is("a sum is 0 with SECOND", b.near(0), 0);
        due.is("near mill 1", b.near(1), UNKNOWN);
        due.is("near mill -1", b.near(-1), UNKNOWN);
    }

    private static void lines(Due due) {
        // a2 a1 - a3 a0 = (10 o + 1)(50 + o) - 10 * 15: o = 0 gives - 100, o = 1 gives 411
        BallMinder b = with("w10;r1;b1;o5;k5;g10");
        due.is("least oil", b.line(0, 3, 0), 1);
        // b: (10 * 5 + b)(55) - 10 b * 15 = 2750 - 95 b: above 0 up to 28
        due.is("least balls", b.line(0, 2, 0), 1);
        due.is("greatest balls", b.line(0, 2, 1), 28);
        due.is("how many balls", b.line(0, 2, 2), 28);
        // g: 51 * 55 - 10 (5 + g) above 0 for all of 1 .. 99
        due.is("greatest pull", b.line(0, 5, 1), 99);
        due.is("as it was", b.ofMill(0, 2), 1);
        // i: a3 a2 a1 - a4 a1 a1 - a3 a3 i = 51 * 55 * 15 - 10 * 225 - 2601 i: 39825 / 2601 is above 15
        due.is("least second", b.line(0, 6, 0), 0);
        due.is("greatest second", b.line(0, 6, 1), 15);
        due.is("how many seconds", b.line(0, 6, 2), 16);
        // r = 0 and o = 0: a2 is 0, whatever k is
        b = with("w10;r0;b1;o0;k5;g10");
        due.is("none, least", b.line(0, 4, 0), NONE);
        due.is("none, greatest", b.line(0, 4, 1), NONE);
        due.is("none, how many", b.line(0, 4, 2), 0);
        due.is("number 7", b.line(0, 7, 9), UNKNOWN);
        due.is("number -1", b.line(0, -1, 0), UNKNOWN);
        due.is("mill 1", b.line(1, 0, 0), UNKNOWN);
        due.is("what 3", b.line(0, 0, 3), OUTSIDE);
        due.is("what -1", b.line(0, 0, -1), OUTSIDE);
    }

    private static void betters(Due due) {
        BallMinder b = with("w10;r1;b1;o5;k5;g10");
        // 51 * 55 - 10 * 15
        due.is("more oil", b.better(0, 3), 1);
        due.is("more balls", b.better(0, 2), -1);
        due.is("more pull", b.better(0, 5), -1);
        due.is("a second one", b.better(0, 6), Long.compare(51L * 55 * 15 - 10 * 225 - 2601, 51 * 55 - 150));
        due.is("as it was", b.ofMill(0, 3), 5);
        // by one more alone: r 0, b 1, o 1, k 1: w w - w g; w 1 to 2 with g 3: -2 and -2, to 3: 0
        b = with("w1;r0;b1;o1;k1;g3");
        due.is("the same by one more", b.better(0, 0), 0);
        // w b k g r o: with r 0 and o 0 margin is - w b g: k changes nothing
        b = with("w10;r0;b1;o0;k5;g10");
        due.is("more spring", b.better(0, 4), 0);
        // from 0 to 1: a1 a2 .. of the row without is -100, of the row with it - 10 * 100 - 0
        due.is("second", b.better(0, 6), -1);
        int[] greatest = {99, 20, 99, 99, 99, 99, 20};
        for (int k = 0; k < 7; k++) {
            b.turn(0, k, greatest[k]);
            due.is("greatest of " + k, b.better(0, k), BallMinder.STATE);
            b.turn(0, k, greatest[k] - 1);
            due.holds("one below it", b.better(0, k) >= -1);
        }
        due.is("number 7", b.better(0, 7), UNKNOWN);
        due.is("number -1", b.better(0, -1), UNKNOWN);
        due.is("mill 3", b.better(3, 0), UNKNOWN);
    }

    private static void offs(Due due) {
        BallMinder b = with("r2;k6;g9");
        // - l * 6 / 21
        due.is("upper", b.off(0, 7, 0), -2);
        due.is("lower", b.off(0, 7, 1), 1);
        due.is("upper of less load", b.off(0, -5, 0), 10);
        due.is("lower of less load", b.off(0, -5, 1), 7);
        due.is("upper of none", b.off(0, 0, 0), 0);
        due.is("lower of none", b.off(0, 0, 1), 1);
        due.is("99", b.off(0, 99, 0), -198);
        due.is("-99", b.off(0, -99, 0), 198);
        due.is("100", b.off(0, 100, 0), LOST);
        due.is("-100", b.off(0, -100, 0), LOST);
        due.is("which 2", b.off(0, 1, 2), LOST);
        due.is("which -1", b.off(0, 1, -1), LOST);
        due.is("mill 1", b.off(1, 1, 0), LOST);
        b.turn(0, 6, 1);
        due.is("upper with SECOND", b.off(0, 7, 0), 0);
        due.is("lower with SECOND", b.off(0, 7, 1), 1);
        b = with("k0");
        due.is("upper without spring", b.off(0, 7, 0), 0);
        due.is("lower without spring", b.off(0, 7, 1), 1);
    }

    private static void yearsOfWear(Due due) {
        // balls: STILL up to 28, from 1
        BallMinder b = with("w10;r1;b1;o5;k5;g10");
        due.is("by 1", b.years(0, 2, 1), 28);
        due.is("by 9", b.years(0, 2, 9), 4);
        due.is("by 0", b.years(0, 2, 0), NONE);
        due.is("by -9, never beyond its least", b.years(0, 2, -9), NONE);
        due.is("as it was", b.ofMill(0, 2), 1);
        b.turn(0, 2, 28);
        due.is("the first year", b.years(0, 2, 1), 1);
        b.turn(0, 2, 40);
        due.is("not STILL at all", b.years(0, 2, 0), 1);
        due.is("becoming STILL", b.years(0, 2, -9), 1);
        due.is("in the wheel", b.years(0, 0, 1), 1);
        due.is("c 10", b.years(0, 2, 10), OUTSIDE);
        due.is("c -10", b.years(0, 2, -10), OUTSIDE);
        due.is("number 7", b.years(0, 7, 10), UNKNOWN);
        due.is("number -1", b.years(0, -1, 0), UNKNOWN);
        due.is("mill 1", b.years(1, 0, 0), UNKNOWN);
        // oil 60 down by 1 a year: with r 0, o 0 is reached in year 60, not STILL only there
        b = with("w10;r0;b1;o60;k99;g1");
        due.is("the sixtieth year", b.years(0, 3, -1), 60);
        b.turn(0, 3, 61);
        due.is("the sixty-first is too late", b.years(0, 3, -1), NONE);
    }
}
