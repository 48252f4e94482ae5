/** The edges that the document names in section 2 and promises 5 to 11; above each test the sentence it holds to. */
public final class NearRestEdgesTest {
    private static final int UNKNOWN = BallMinder.UNKNOWN, OUTSIDE = BallMinder.OUTSIDE, STATE = BallMinder.STATE;
    private static final int NONE = BallMinder.NONE;
    private static final long LOST = BallMinder.LOST;
    private static final int WHEEL = 0, BRAKE = 1, BALLS = 2, OIL = 3, SPRING = 4, PULL = 5, SECOND = 6;
    private static final int[] LEAST = {1, 0, 1, 0, 0, 1, 0};
    private static final int[] GREATEST = {99, 20, 99, 99, 99, 99, 20};
    private static final int[] EXTREMES = {Integer.MIN_VALUE, Integer.MAX_VALUE};

    private final Due due = new Due();

    public static void main(String[] args) {
        NearRestEdgesTest test = new NearRestEdgesTest();
        test.sumsOfLeastAndGreatest();
        test.sumsWithAndWithoutSecond();
        test.marginsAtTheirGreatest();
        test.aboveAtAndBelowTheLine();
        test.aSumThatIsNothing();
        test.lineFromLeastToGreatest();
        test.lineAtOneEndAlone();
        test.lineWithAGap();
        test.ringsAreNotStill();
        test.lineInSecond();
        test.lineOfNone();
        test.lineLeavesAllAsItIs();
        test.betterByOneAlone();
        test.betterAtItsGreatest();
        test.betterOfTheFirstSecond();
        test.offAtItsBounds();
        test.offInLeastTerms();
        test.offOfNothing();
        test.yearsFirstAndLast();
        test.yearsNeverBeyond();
        test.yearsInSecond();
        test.yearNothingIsNotLookedAt();
        test.yearsByNothing();
        test.outside();
        test.due.end();
    }

    private static BallMinder with(String text) {
        BallMinder b = new BallMinder();
        Texts.drawn(b, 0, text);
        return b;
    }

    private void row(BallMinder b, long... want) {
        for (int k = 0; k < want.length; k++) {
            due.is("row(0, " + k + ")", b.row(0, k), want[k]);
        }
    }

    private void line(BallMinder b, int number, int least, int greatest, int many) {
        due.is("least of " + number, b.line(0, number, 0), least);
        due.is("greatest of " + number, b.line(0, number, 1), greatest);
        due.is("how many of " + number, b.line(0, number, 2), many);
    }

    private void off(BallMinder b, int l, long upper, long lower) {
        due.is("upper of off for " + l, b.off(0, l, 0), upper);
        due.is("lower of off for " + l, b.off(0, l, 1), lower);
    }

    private void sumsOfLeastAndGreatest() {
        row(with("w1;r0;b1;o0;k0;g1;i0"), 1, 0, 0, 1, 0);
        row(with("w1;r0;b1;o0;k0;g1;i1"), 1, 1, 0, 0, 1);
        row(with("w99;r20;b99;o99;k99;g99;i0"), 2079, 11781, 11781, 9801, 0);
        row(with("w99;r20;b99;o99;k99;g99;i20"), 20, 2079, 11781, 11781, 9801);
    }

    /** a0 .. a4 of a MILL (a4 without SECOND: 0). */
    private void sumsWithAndWithoutSecond() {
        BallMinder b = with("w2;r3;b5;o7;k11;g13");
        row(b, 46, 43, 29, 10, 0);
        b.turn(0, SECOND, 1);
        row(b, 1, 46, 43, 29, 10);
        b.turn(0, SECOND, 0);
        row(b, 46, 43, 29, 10, 0);
    }

    private void marginsAtTheirGreatest() {
        due.is("greatest numbers", with("w99;r20;b99;o99;k99;g99;i0").margin(0), 11781L * 11781 - 9801L * 2079);
        due.is("greatest numbers with SECOND", with("w99;r20;b99;o99;k99;g99;i20").margin(0),
            11781L * 11781 * 2079 - 9801L * 2079 * 2079 - 11781L * 11781 * 20);
        due.is("far below", with("w99;r0;b99;o0;k0;g99").margin(0), -9801L * 99);
        due.is("far below with SECOND", with("w99;r0;b99;o99;k0;g99;i20").margin(0),
            -9801L * 99 * 99 - 9801L * 9801 * 20);
    }

    /** STILL: MARGIN is above 0; RINGS: MARGIN is 0; HUNTS else. */
    private void aboveAtAndBelowTheLine() {
        // without SECOND, w 1 and r 0: o k - b g
        String[] texts = {"w1;r0;b1;o1;k2;g1", "w1;r0;b1;o1;k1;g1", "w1;r0;b1;o1;k1;g2",
            // with it: o k g - b g g - o o i
            "w1;r0;b3;o2;k10;g5;i6", "w1;r0;b4;o4;k10;g6;i6", "w1;r0;b11;o5;k10;g4;i1"};
        for (int k = 0; k < texts.length; k++) {
            BallMinder b = with(texts[k]);
            due.is("margin of " + texts[k], b.margin(0), 1 - k % 3);
            due.is("near of " + texts[k], b.near(0), 2 - k % 3);
        }
    }

    /** STILL: all of the row are above 0. */
    private void aSumThatIsNothing() {
        String[] texts = {"r0;o0;k9", "r0;o9;k0", "r9;o0;k0", "r0;o0;k0", "r0;o0;k9;i1", "r0;o9;k0;i1", "r9;o0;k0;i1"};
        for (String text : texts) {
            due.is("near of " + text, with(text).near(0), 0);
        }
    }

    /** The least, the greatest of its numbers with which it is STILL. */
    private void lineFromLeastToGreatest() {
        // much oil and spring, light balls and little pull: STILL with every number of each but oil and spring
        BallMinder b = with("w10;r5;b1;o50;k50;g1");
        for (int number : new int[] {WHEEL, BRAKE, BALLS, PULL, SECOND}) {
            line(b, number, LEAST[number], GREATEST[number], GREATEST[number] - LEAST[number] + 1);
        }
        // w 1, r 0, b 1, g 1: o k above 1
        b = with("w1;r0;b1;o1;k1;g1");
        line(b, OIL, 2, 99, 98);
        line(b, SPRING, 2, 99, 98);
        b = with("w1;r0;b1;o2;k1;g1");
        line(b, SPRING, 1, 99, 99);
        // (o + 20)(5 + 20 o) - 101: -1 with 0
        line(with("w1;r20;b1;o5;k5;g1"), OIL, 1, 99, 99);
        // 20 (k + 19) - (19 k + 1) = k + 379
        line(with("w1;r19;b1;o1;k5;g1"), SPRING, 0, 99, 100);
    }

    private void lineAtOneEndAlone() {
        // (1 + 9)(k + 1) - 9 (k + 12) = k - 98
        line(with("w1;r1;b9;o1;k4;g12"), SPRING, 99, 99, 1);
        // 7 * 2 - 9 g
        line(with("w1;r0;b9;o7;k2;g50"), PULL, 1, 1, 1);
    }

    private void lineWithAGap() {
        // (w + 60)(7 w + 5) - 12 w 44 = 7 w w - 103 w + 300: 0 with 4, below 0 from 5 to 10
        BallMinder b = with("w9;r5;b12;o1;k7;g9");
        due.is("it hunts itself", b.near(0), 0);
        line(b, WHEEL, 1, 99, 92);
    }

    private void ringsAreNotStill() {
        // 7 * 5 - b: 0 with 35
        BallMinder b = with("w1;r0;b35;o7;k5;g1");
        due.is("it rings itself", b.near(0), 1);
        line(b, BALLS, 1, 34, 34);
        // o 5 - 35: 0 with 7
        line(b, OIL, 8, 99, 92);
    }

    /** LINE in a NUMBER (0 .. 6), SECOND too: by the row without it and with it. */
    private void lineInSecond() {
        // 15 * 27 * 15 - 12 * 15 * 15 - 15 * 15 i: 0 with 15
        BallMinder b = with("w12;r3;b1;o1;k2;g9");
        line(b, SECOND, 0, 14, 15);
        b.turn(0, SECOND, 20);
        line(b, SECOND, 0, 14, 15);
        // without it 110 * 11 - 99 * 11, with it 110 * 11 * 11 - 99 * 121 - 12100 i
        line(with("w11;r0;b9;o10;k1;g11"), SECOND, 0, 0, 1);
    }

    /** NONE: there is none (what 0, 1); how many is 0. */
    private void lineOfNone() {
        BallMinder b = with("r0;o0;k99");
        for (int number : new int[] {WHEEL, BALLS, SPRING, PULL, SECOND}) {
            line(b, number, NONE, NONE, 0);
        }
    }

    /** All others as they are; the mill itself stays. */
    private void lineLeavesAllAsItIs() {
        BallMinder b = with("w9;r5;b12;o1;k7;g9;i3");
        int[] were = {9, 5, 12, 1, 7, 9, 3, 0, 5, 0};
        for (int number = 0; number < 7; number++) {
            b.line(0, number, 2);
            b.better(0, number);
            b.years(0, number, 9);
            b.years(0, number, -9);
            for (int what = 0; what < 10; what++) {
                due.is("ofMill(0, " + what + ")", b.ofMill(0, what), were[what]);
            }
        }
    }

    /** BETTER: whether MARGIN with that NUMBER one more is greater, the same, less. */
    private void betterByOneAlone() {
        // o k - b g, w 1 and r 0: one more of each is greater by 1, less by 1
        BallMinder b = with("w1;r0;b1;o1;k1;g1");
        due.is("more spring", b.better(0, SPRING), 1);
        due.is("more oil", b.better(0, OIL), 1);
        due.is("more balls", b.better(0, BALLS), -1);
        due.is("more pull", b.better(0, PULL), -1);
        b = with("w1;r0;b1;o0;k1;g1");
        due.is("spring without oil", b.better(0, SPRING), 0);
        b = with("w1;r0;b1;o1;k0;g1");
        due.is("oil without spring", b.better(0, OIL), 0);
        // o k g - b g g - o o i grows by o k - b (2 g + 1) = 9801 - 99 (2 g + 1) with one more g
        b = with("w1;r0;b99;o99;k99;g49;i20");
        due.is("pull with SECOND, the same", b.better(0, PULL), 0);
        b.turn(0, PULL, 48);
        due.is("pull with SECOND, greater", b.better(0, PULL), 1);
        b.turn(0, PULL, 50);
        due.is("pull with SECOND, less", b.better(0, PULL), -1);
    }

    /** STATE: it is its greatest. */
    private void betterAtItsGreatest() {
        for (int number = 0; number < 7; number++) {
            BallMinder b = with("w9;r5;b12;o1;k7;g9;i3");
            b.turn(0, number, GREATEST[number]);
            due.is("better of the greatest " + number, b.better(0, number), STATE);
            due.is("it stays", b.ofMill(0, number), GREATEST[number]);
            b.turn(0, number, GREATEST[number] - 1);
            long before = b.margin(0);
            int better = b.better(0, number);
            b.turn(0, number, GREATEST[number]);
            due.is("one below it", better, Long.compare(b.margin(0), before));
            b.turn(0, number, LEAST[number]);
            before = b.margin(0);
            better = b.better(0, number);
            b.turn(0, number, LEAST[number] + 1);
            due.is("the least", better, Long.compare(b.margin(0), before));
        }
    }

    /** Of SECOND from 0 to 1, too: by the one row and the other. */
    private void betterOfTheFirstSecond() {
        // without it 2 - 1 = 1, with it 2 g - g g - i = 2 - 1 - 1
        due.is("less", with("w1;r0;b1;o1;k2;g1").better(0, SECOND), -1);
        // without it 3 - 1 = 2, with it 3 - 1 - 1
        due.is("less by one", with("w1;r0;b1;o1;k3;g1").better(0, SECOND), -1);
        // without it 4 - 2 = 2, with it 8 - 4 - 1 = 3
        due.is("greater", with("w1;r0;b1;o1;k4;g2").better(0, SECOND), 1);
        // without it 3 - 2 = 1, with it 6 - 4 - 1
        due.is("the same", with("w1;r0;b1;o1;k3;g2").better(0, SECOND), 0);
    }

    /** OFF for a load more by l (-99 .. 99). */
    private void offAtItsBounds() {
        BallMinder b = with("r0;k99;g1");
        off(b, 99, -9801, 1);
        off(b, -99, 9801, 1);
        off(b, 100, LOST, LOST);
        off(b, -100, LOST, LOST);
        for (int wrong : EXTREMES) {
            off(b, wrong, LOST, LOST);
            due.is("which " + wrong, b.off(0, 1, wrong), LOST);
        }
        due.is("which 2", b.off(0, 1, 2), LOST);
        due.is("which -1", b.off(0, 1, -1), LOST);
    }

    /** Shares are told as upper and lower number (above 0) in least terms. */
    private void offInLeastTerms() {
        off(with("r0;k3;g10"), 7, -21, 10);
        off(with("r0;k3;g10"), -7, 21, 10);
        off(with("r0;k3;g10"), 10, -3, 1);
        off(with("r20;k99;g99"), 99, -33, 7);
        off(with("r20;k99;g99"), 1, -1, 21);
        off(with("r1;k1;g1"), 1, -1, 2);
        off(with("r1;k1;g1"), -2, 1, 1);
    }

    /** OFF is 0 with SECOND. */
    private void offOfNothing() {
        for (int l : new int[] {-99, -1, 0, 1, 99}) {
            off(with("r2;k6;g9;i1"), l, 0, 1);
            off(with("r2;k6;g9;i20"), l, 0, 1);
            off(with("r2;k0;g9"), l, 0, 1);
        }
        off(with("r2;k6;g9"), 0, 0, 1);
    }

    /** The first year (1 .. 60) in which it is not STILL; NONE: it is STILL in all. */
    private void yearsFirstAndLast() {
        // o 9 - 9: STILL from 2 on, rings with 1
        BallMinder b = with("w1;r0;b9;o2;k9;g1");
        due.is("in the first", b.years(0, OIL, -1), 1);
        b.turn(0, OIL, 60);
        due.is("in the fifty-ninth", b.years(0, OIL, -1), 59);
        b.turn(0, OIL, 61);
        due.is("in the sixtieth", b.years(0, OIL, -1), 60);
        b.turn(0, OIL, 62);
        due.is("in the sixty-first", b.years(0, OIL, -1), NONE);
        due.is("by 9 a year", b.years(0, OIL, -9), 7);
        due.is("upwards", b.years(0, OIL, 9), NONE);
        // 9 * 11 - b: rings with 99
        b = with("w1;r0;b1;o11;k9;g1");
        due.is("by 9 upwards", b.years(0, BALLS, 9), 11);
        due.is("by 8 upwards", b.years(0, BALLS, 8), 13);
    }

    /** Never beyond its least, greatest. */
    private void yearsNeverBeyond() {
        // 10 * 10 - b: STILL with 99, though not with 100
        BallMinder b = with("w1;r0;b95;o10;k10;g1");
        due.is("it stays at its greatest", b.years(0, BALLS, 9), NONE);
        // 9 * 11 - b: rings with 99
        b = with("w1;r0;b95;o11;k9;g1");
        due.is("its greatest is not STILL", b.years(0, BALLS, 9), 1);
        // w 1 is STILL, w 0 and less are not
        b = with("w3;r0;b1;o2;k2;g1");
        due.is("it stays at its least", b.years(0, WHEEL, -9), NONE);
        // g 1 is STILL: 0 and less are not as told
        due.is("pull stays at its least", b.years(0, PULL, -9), NONE);
        // k 0 is not
        due.is("spring comes to its least", b.years(0, SPRING, -9), 1);
        for (int number = 0; number < 7; number++) {
            b = with("w10;r5;b1;o50;k50;g1");
            b.turn(0, number, GREATEST[number]);
            due.is("from its greatest on", b.years(0, number, 9), b.near(0) == 2 ? NONE : 1);
            b.turn(0, number, LEAST[number]);
            due.is("from its least on", b.years(0, number, -9), b.near(0) == 2 ? NONE : 1);
        }
    }

    private void yearsInSecond() {
        // STILL up to 14, rings with 15
        BallMinder b = with("w12;r3;b1;o1;k2;g9");
        due.is("by 1", b.years(0, SECOND, 1), 15);
        due.is("by 7", b.years(0, SECOND, 7), 3);
        due.is("by 9", b.years(0, SECOND, 9), 2);
        due.is("by -9, at its least", b.years(0, SECOND, -9), NONE);
        b.turn(0, SECOND, 20);
        due.is("back to the line", b.years(0, SECOND, -1), 1);
    }

    /** The first year (1 .. 60): what it is now is none of them. */
    private void yearNothingIsNotLookedAt() {
        // STILL up to 34 balls
        BallMinder b = with("w1;r0;b35;o7;k5;g1");
        due.is("it rings now", b.near(0), 1);
        due.is("but in no year", b.years(0, BALLS, -1), NONE);
        b.turn(0, BALLS, 36);
        due.is("it rings in the first", b.years(0, BALLS, -1), 1);
    }

    private void yearsByNothing() {
        BallMinder b = with("w1;r0;b34;o7;k5;g1");
        due.is("STILL for ever", b.years(0, BALLS, 0), NONE);
        b.turn(0, BALLS, 35);
        due.is("it never was", b.years(0, BALLS, 0), 1);
    }

    private void outside() {
        BallMinder b = with("w10");
        for (int wrong : new int[] {-1, 7, 8, 9, Integer.MIN_VALUE, Integer.MAX_VALUE}) {
            due.is("line in " + wrong, b.line(0, wrong, 0), UNKNOWN);
            due.is("better of " + wrong, b.better(0, wrong), UNKNOWN);
            due.is("years in " + wrong, b.years(0, wrong, 0), UNKNOWN);
        }
        for (int wrong : EXTREMES) {
            due.is("line what " + wrong, b.line(0, 0, wrong), OUTSIDE);
            due.is("years by " + wrong, b.years(0, 0, wrong), OUTSIDE);
            due.is("row " + wrong, b.row(0, wrong), LOST);
            due.is("row of mill " + wrong, b.row(wrong, 0), LOST);
            due.is("margin of mill " + wrong, b.margin(wrong), LOST);
            due.is("near of mill " + wrong, b.near(wrong), UNKNOWN);
        }
    }
}
