/** The edges that the document names in promises 15 to 17; above each test the sentence it holds to. */
public final class TwoEdgesTest {
    private static final int OUTSIDE = BallMinder.OUTSIDE, UNKNOWN = BallMinder.UNKNOWN, NONE = BallMinder.NONE;
    private static final long LOST = BallMinder.LOST;
    private static final int[] EXTREMES = {Integer.MIN_VALUE, Integer.MAX_VALUE};

    private final Due due = new Due();

    public static void main(String[] args) {
        TwoEdgesTest test = new TwoEdgesTest();
        test.loadsAtTheirBounds();
        test.beatsAtTheirBounds();
        test.bothWheelsAndBrakes();
        test.theGreaterLate();
        test.eachItsOwnLate();
        test.eachOfItsOwnKind();
        test.eachItsOwnMissed();
        test.nothingIsLeftOfARunAhead();
        test.comesRoundAtTheLastTick();
        test.valvesWhereItComesRound();
        test.bothAreOne();
        test.wrongNumbersOfTwo();
        test.sharesInLeastTerms();
        test.sharesOfTheLeastAndTheGreatest();
        test.sharesByState();
        test.wrongNumbersOfShare();
        test.bestOfSeveralIsTheLeast();
        test.bestOfThoseThatDropToNothing();
        test.bestByTheLowestAlone();
        test.bitsOfMills();
        test.loadsOfBest();
        test.due.end();
    }

    private static BallMinder with(String... texts) {
        BallMinder b = new BallMinder();
        for (String text : texts) {
            Texts.drawn(b, 0, text);
        }
        return b;
    }

    /** How it ends, TICK, RING, LOWEST, GREATEST, both VALVES (as many of them as are told). */
    private void two(BallMinder b, int v, int load, int... told) {
        for (int what = 0; what < told.length; what++) {
            due.is(Calls.told("two", 0, 1, v, load, what), b.two(0, 1, v, load, what), told[what]);
            int turned = what == 5 ? 6 : what == 6 ? 5 : what;
            due.is(Calls.told("two", 1, 0, v, load, turned), b.two(1, 0, v, load, turned), told[what]);
        }
    }

    private void share(BallMinder b, int x, int y, long upper, long lower) {
        due.is(Calls.told("share", x, y, 0), b.share(x, y, 0), upper);
        due.is(Calls.told("share", x, y, 1), b.share(x, y, 1), lower);
    }

    /** FROM v, VALVES 50, with a LOAD (0 .. 200). */
    private void loadsAtTheirBounds() {
        BallMinder b = with("w10;r0;g10", "w10;r0;g10");
        // 100 with no load: 1000 by 20: 150, both shut: 150
        two(b, 100, 0, 0, 3, 1, 100, 150, 0, 0);
        // 100 with 200: -50: 50, both open: 50
        two(b, 100, 200, 0, 3, 1, 50, 100, 100, 100);
        due.is("load 201", b.two(0, 1, 100, 201, 0), OUTSIDE);
        due.is("load -1", b.two(0, 1, 100, -1, 0), OUTSIDE);
    }

    private void beatsAtTheirBounds() {
        BallMinder b = with("w10;r0;g10", "w10;r0;g10");
        // 0 with no load: both open: 100; 50 and 50: 150; both shut: 150
        two(b, 0, 0, 0, 4, 1, 0, 150, 0, 0);
        // 999 with 200: both shut: 100 down a tick to 99; 51 and 51: 50; both open: 50
        two(b, 999, 200, 0, 12, 1, 50, 999, 100, 100);
        b = with("w1;r0;g10", "w1;r0;g10");
        // both shut and no load: 500
        two(b, 500, 0, 0, 2, 1, 500, 500, 0, 0);
        // both shut, 1000 down: 0; both open, and as much load: 0
        two(b, 999, 200, 0, 3, 1, 0, 999, 100, 100);
        // both open, 1000 up: 999; both shut and no load: 999
        two(b, 50, 0, 0, 3, 1, 50, 999, 0, 0);
    }

    /** Less both R times (BEAT less 100), by both W. */
    private void bothWheelsAndBrakes() {
        // valves stay at 50: 105, less 15 by 5: 102, less 6 by 5: 101, less 3 by 5: 101
        two(with("w1;r1;g1", "w4;r2;g1"), 105, 100, 0, 3, 1, 101, 105, 50, 50);
        // 105, less 200 by 198: 104, less 160 by 198: 104
        two(with("w99;r20;g1", "w99;r20;g1"), 105, 100, 0, 2, 1, 104, 105, 50, 50);
    }

    /** BEATS ahead as the greater LATE tells. */
    private void theGreaterLate() {
        // the brakes take 5 at once, the valves stay at 50: 105, 100, 100, 100, ..
        for (int one = 0; one <= 3; one++) {
            for (int other = 0; other <= 3; other++) {
                BallMinder b = with("w10;r10;g1;d" + one, "w10;r10;g1;d" + other);
                two(b, 105, 100, 0, Math.max(one, other) + 2, 1, 100, 105, 50, 50);
            }
        }
    }

    private void eachItsOwnLate() {
        // 40, 40: 108; 42, 40: 107; 43, 40: 106; 44, 40: 105; 45, 42: 104; 46, 43: 103; 47, 44; 47, 45; 47, 46;
        // 47, 47 (the tenth); and once more
        two(with("w50;r0;g10;d0", "w50;r0;g10;d3"), 110, 100, 0, 11, 1, 103, 110, 47, 47);
    }

    /** THE VALVE of a PLAIN one, of an OILED one, of a STICKY one. */
    private void eachOfItsOwnKind() {
        BallMinder b = with("w10;r0;g10");
        Texts.drawn(b, 2, "w10;r0;g10;s50");
        // the sticky one stays: 40: 105; 45: 103; 47: 102; 48: 101; 49: 101; 49
        two(b, 110, 100, 0, 6, 1, 101, 110, 49, 50);
        b = with("w10;r0;g10");
        Texts.drawn(b, 1, "w10;r0;g10;o39");
        // the oiled one goes by 1: 40, 49: 105; 45, 48: 102; 48, 48: 100; 50, 49: 100; 50, 50: 100; and once more
        two(b, 110, 100, 0, 6, 1, 100, 110, 50, 50);
    }

    /** Each its VALVE and MISSED. */
    private void eachItsOwnMissed() {
        // the wheels are so heavy that the beat stays at 101; the one misses nothing, the other 1 a tick
        BallMinder b = with("w99;r0;g1", "w99;r0;g1;i10");
        two(b, 101, 85, 2, NONE, NONE, 101, 101, 50, 20);
        b.turn(1, 6, 0);
        two(b, 101, 85, 0, 1, 1, 101, 101, 50, 50);
        b.turn(1, 6, 5);
        b.turn(0, 6, 5);
        two(b, 101, 85, 2, NONE, NONE, 101, 101, 35, 35);
    }

    /** FROM .. MISSED 0, all BEATS ahead v: each run begins anew, whatever ran ahead of it. */
    private void nothingIsLeftOfARunAhead() {
        String[] texts = {"w10;r0;g10", "w99;r0;g1;i10", "w10;r10;g1;d3"};
        for (int other = 1; other < 3; other++) {
            BallMinder b = with(texts);
            for (int what = 0; what < 5; what++) {
                // a long run that leaves valves, beats and what was missed behind, of the one and of the other
                b.two(1, 2, 900, 85, 0);
                b.two(0, 1, 101, 85, 0);
                b.two(2, 1, 101, 85, 0);
                due.is("far behind two", b.far(0, 110, 50, 50, what), with(texts).far(0, 110, 50, 50, what));
                b.two(2, 1, 101, 85, 0);
                int anew = with(texts).far(other, 105, 50, 50, what);
                due.is("far of another behind two", b.far(other, 105, 50, 50, what), anew);
                b.two(1, 2, 101, 85, 0);
                anew = with(texts).two(0, other, 110, 100, what);
                due.is("two behind two", b.two(0, other, 110, 100, what), anew);
            }
            b.two(2, 1, 101, 85, 0);
            due.is("reach behind two", b.reach(0), 99);
            b.two(2, 1, 101, 85, 0);
            due.is("after behind two", b.after(1, 101, 50, 50, 0, 2), 0);
            due.is("after behind two", b.after(1, 101, 50, 50, 3, 2), 3);
        }
    }

    /** Likewise: at most 300 TICKS. */
    private void comesRoundAtTheLastTick() {
        // shut, with 2 as load, it falls by 1 a tick to 105; there both valves open by 1 and it rests one tick later
        BallMinder b = with("w10;r0;g99", "w10;r0;g99");
        two(b, 402, 2, 0, 299, 1, 105, 402, 1, 1);
        two(b, 403, 2, 0, 300, 1, 105, 403, 1, 1);
        two(b, 404, 2, 2, NONE, NONE, 105, 404, 1, 1);
        two(b, 405, 2, 2, NONE, NONE, 105, 405, 0, 0);
    }

    /** VALVES of the one, the other (5, 6) at the TICK at which it COMES ROUND (or 300). */
    private void valvesWhereItComesRound() {
        BallMinder b = with("w10;r0;g10", "w10;r0;g20");
        // 115, 108, 111, 110, 110, 110
        two(b, 100, 70, 0, 6, 1, 100, 115, 40, 30);
        // 49, 47: 97; 53, 59: 109; 41, 23: 73; 77, 100: 150; both shut: 50; both open: 150; both shut: 50
        two(with("w5;r0;g10", "w5;r0;g30"), 101, 100, 1, 7, 2, 50, 150, 0, 0);
    }

    /** OUTSIDE: both are one. UNKNOWN: MILLS. */
    private void bothAreOne() {
        BallMinder b = with("w10", "w10");
        for (int x = 0; x < 2; x++) {
            due.is("two of one", b.two(x, x, 100, 100, 0), OUTSIDE);
            due.is("share of one", b.share(x, x, 0), LOST);
        }
        due.is("two of one that is not there", b.two(2, 2, 100, 100, 0), UNKNOWN);
        due.is("two alike are not one", b.two(0, 1, 100, 100, 0), 0);
    }

    private void wrongNumbersOfTwo() {
        BallMinder b = with("w10", "w10");
        for (int wrong : EXTREMES) {
            due.is("v " + wrong, b.two(0, 1, wrong, 100, 0), OUTSIDE);
            due.is("load " + wrong, b.two(0, 1, 100, wrong, 0), OUTSIDE);
            due.is("what " + wrong, b.two(0, 1, 100, 100, wrong), OUTSIDE);
            due.is("the one " + wrong, b.two(wrong, 1, 100, 100, 0), UNKNOWN);
            due.is("the other " + wrong, b.two(0, wrong, 100, 100, 0), UNKNOWN);
        }
        for (int what = 0; what <= 6; what++) {
            due.holds("what " + what, b.two(0, 1, 100, 100, what) >= 0);
        }
        due.is("what 7", b.two(0, 1, 100, 100, 7), OUTSIDE);
        due.is("what -1", b.two(0, 1, 100, 100, -1), OUTSIDE);
    }

    /** SHARE: of both quotients G by K, not cut, its part of their sum. */
    private void sharesInLeastTerms() {
        // 1 and 1 by 2
        BallMinder b = with("g1;k1", "g1;k2");
        share(b, 0, 1, 2, 3);
        share(b, 1, 0, 1, 3);
        // 7 by 3 and 5 by 4: 28 and 15
        b = with("g7;k3", "g5;k4");
        share(b, 0, 1, 28, 43);
        share(b, 1, 0, 15, 43);
        // 6 by 4 and 9 by 6 are alike
        b = with("g6;k4", "g9;k6");
        share(b, 0, 1, 1, 2);
        share(b, 1, 0, 1, 2);
    }

    private void sharesOfTheLeastAndTheGreatest() {
        BallMinder b = with("g99;k1", "g1;k99");
        share(b, 0, 1, 9801, 9802);
        share(b, 1, 0, 1, 9802);
        b = with("g99;k99", "g1;k1");
        share(b, 0, 1, 1, 2);
        b = with("g99;k99", "g98;k99");
        share(b, 0, 1, 99, 197);
    }

    /** STATE: a K is 0, a SECOND is not. */
    private void sharesByState() {
        BallMinder b = with("g1;k1", "g1;k1", "g1;k0", "g1;k1;i1", "g1;k1;i20");
        for (int wrong = 2; wrong < 5; wrong++) {
            share(b, 0, wrong, LOST, LOST);
            share(b, wrong, 0, LOST, LOST);
        }
        share(b, 0, 1, 1, 2);
        b.turn(2, 4, 1);
        share(b, 0, 2, 1, 2);
        b.turn(3, 6, 0);
        share(b, 3, 0, 1, 2);
    }

    private void wrongNumbersOfShare() {
        BallMinder b = with("g1;k1", "g1;k1");
        for (int wrong : new int[] {-1, 2, Integer.MIN_VALUE, Integer.MAX_VALUE}) {
            due.is("which " + wrong, b.share(0, 1, wrong), LOST);
            due.is("the one " + wrong, b.share(wrong, 1, 0), LOST);
            due.is("the other " + wrong, b.share(0, wrong, 0), LOST);
        }
    }

    /** Of several the least number. */
    private void bestOfSeveralIsTheLeast() {
        BallMinder b = with("w50", "w50", "w50", "w50", "w50", "w50", "w50", "w50");
        for (int x = 0; x < 8; x++) {
            due.is("of those from " + x + " on", b.best(255 & -1 << x, 80), x);
            due.is("of " + x + " alone", b.best(1 << x, 80), x);
        }
    }

    /** The one whose LOWEST is the greatest, where all are 0, too. */
    private void bestOfThoseThatDropToNothing() {
        BallMinder b = with("w1;r0;g1", "w1;r0;g1", "w50;r0;g20");
        due.is("lowest of the first", b.far(0, 100, 50, 100, 3), 0);
        due.is("of two that drop to 0", b.best(3, 100), 0);
        due.is("of one that does", b.best(2, 100), 1);
        due.is("of all", b.best(7, 100), 2);
    }

    /** FROM 100, VALVE 50, with a LOAD: LOWEST counts, not where it ends. */
    private void bestByTheLowestAlone() {
        // 100, 40, 80, 80, .. and 100, 70, 70, ..
        BallMinder b = with("w5;r0;g15", "w10;r0;g10");
        due.is("the first rests at", b.after(0, 100, 50, 80, 300, 0), 80);
        due.is("the second rests at", b.after(1, 100, 50, 80, 300, 0), 70);
        due.is("the first drops to", b.far(0, 100, 50, 80, 3), 40);
        due.is("the second drops to", b.far(1, 100, 50, 80, 3), 70);
        due.is("of both", b.best(3, 80), 1);
        // with no load neither drops below 100
        due.is("neither drops", b.best(3, 0), 0);
        due.is("at rest both are alike", b.best(3, 50), 0);
    }

    /** OUTSIDE: a bit of none. NONE: none is told. */
    private void bitsOfMills() {
        BallMinder b = new BallMinder();
        for (int count = 0; count <= 8; count++) {
            due.is("none is told", b.best(0, 80), NONE);
            for (int bit = 0; bit < 32; bit++) {
                due.is("bit " + bit + " of " + count, b.best(1 << bit, 80), bit < count ? bit : OUTSIDE);
            }
            due.is("all bits", b.best(-1, 80), OUTSIDE);
            if (count > 0) {
                due.is("all there are", b.best((1 << count) - 1, 80), 0);
            }
            due.is("all there are and one more", b.best((1 << count + 1) - 1, 80), OUTSIDE);
            Texts.drawn(b, 0, "w50");
        }
    }

    private void loadsOfBest() {
        BallMinder b = with("w50");
        for (int wrong : new int[] {-1, 101, Integer.MIN_VALUE, Integer.MAX_VALUE}) {
            due.is("load " + wrong, b.best(1, wrong), OUTSIDE);
            due.is("load " + wrong + " of none", b.best(0, wrong), OUTSIDE);
        }
        due.is("load 0", b.best(1, 0), 0);
        due.is("load 100", b.best(1, 100), 0);
    }
}
