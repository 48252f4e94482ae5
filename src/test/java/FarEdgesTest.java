/** The edges that the document names in section 3 and promises 12 to 14; above each test the sentence it holds to. */
public final class FarEdgesTest {
    private static final int OUTSIDE = BallMinder.OUTSIDE, UNKNOWN = BallMinder.UNKNOWN, NONE = BallMinder.NONE;
    private static final int[] EXTREMES = {Integer.MIN_VALUE, Integer.MAX_VALUE};

    private final Due due = new Due();

    public static void main(String[] args) {
        FarEdgesTest test = new FarEdgesTest();
        test.innerQuotientIsCut();
        test.outerQuotientIsCut();
        test.quotientOfTheBeatIsCut();
        test.wantedAtItsBounds();
        test.oilAtItsBounds();
        test.oilOfEachStep();
        test.stickAtItsBounds();
        test.feltAsLateAsTold();
        test.missedAtItsBounds();
        test.missedComesBackFromItsBounds();
        test.missedWithoutSecond();
        test.beatAtItsBounds();
        test.behindNoTicks();
        test.behindAllTicks();
        test.comesRoundAtTheFirstTick();
        test.comesRoundAtTheLastTick();
        test.beatsAheadAsLateTells();
        test.beatMustBeAlike();
        test.missedMustBeAlike();
        test.restIsARingOfOne();
        test.lowestAndGreatestFromTheFirstTick();
        test.lowestAndGreatestToTheLastTick();
        test.fromItsBounds();
        test.reachOfNothingAndAll();
        test.reachStopsAtTheFirst();
        test.reachWithinAllTicks();
        test.reachFromAboveAlone();
        test.reachIsNeverNone();
        test.due.end();
    }

    private static BallMinder with(int kind, String text) {
        BallMinder b = new BallMinder();
        Texts.drawn(b, kind, text);
        return b;
    }

    /** The tick as given: BEAT, VALVE, MISSED (as many of them as are told). */
    private void tick(BallMinder b, int v, int u, int load, int t, int... told) {
        for (int what = 0; what < told.length; what++) {
            String call = Calls.told("after", 0, v, u, load, t, what);
            due.is(call, b.after(0, v, u, load, t, what), told[what]);
        }
    }

    /** How it ends, at which TICK, how long the RING is, LOWEST, GREATEST (as many of them as are told). */
    private void far(BallMinder b, int v, int u, int load, int... told) {
        for (int what = 0; what < told.length; what++) {
            due.is(Calls.told("far", 0, v, u, load, what), b.far(0, v, u, load, what), told[what]);
        }
    }

    /** The QUOTIENT of I times MISSED by 10, which is cut ahead of the one around it. */
    private void innerQuotientIsCut() {
        // 63 by 10: 6; -12: 97; -21 and 18 by 10: -20 by 10: -2
        tick(with(0, "w5;r0;g7;i2"), 109, 50, 50, 2, 101, 52, 6);
        // -5 by 10: 0; -5 and -45 by 10: -9
        tick(with(0, "w5;r0;g1;i9"), 95, 50, 50, 2, 95, 50, -10);
        // 9 by 10: 0; 9 and 18 by 10: 10
        tick(with(0, "w5;r0;g1;i2"), 109, 50, 50, 2, 107, 49, 18);
    }

    private void outerQuotientIsCut() {
        // -10 by 10: -1, 2 up; -6 and -5 by 10: -6 by 10: 0
        tick(with(0, "w5;r0;g2;i1"), 95, 50, 50, 2, 97, 50, -8);
        tick(with(0, "w10;r0;g1"), 109, 50, 50, 1, 109, 50);
        tick(with(0, "w10;r0;g1"), 110, 50, 50, 1, 109, 49);
        tick(with(0, "w10;r0;g1"), 91, 50, 50, 1, 91, 50);
        tick(with(0, "w10;r0;g1"), 90, 50, 50, 1, 91, 51);
    }

    /** THE BEAT grows by the QUOTIENT of (10 times VALVE less 10 times the LOAD less R times (BEAT less 100)) by W. */
    private void quotientOfTheBeatIsCut() {
        tick(with(0, "w99;r0;g1"), 100, 50, 41, 1, 100);
        tick(with(0, "w99;r0;g1"), 100, 50, 40, 1, 101);
        tick(with(0, "w99;r0;g1"), 100, 50, 59, 1, 100);
        tick(with(0, "w99;r0;g1"), 100, 50, 60, 1, 99);
        // brakes alone: - 20 * 4 and - 20 * 5 by 99; the valve is 50
        tick(with(0, "w99;r20;g1"), 104, 50, 50, 1, 104);
        tick(with(0, "w99;r20;g1"), 105, 50, 50, 1, 104);
        tick(with(0, "w99;r20;g1"), 96, 50, 50, 1, 96);
        tick(with(0, "w99;r20;g1"), 95, 50, 50, 1, 96);
    }

    /** WANTED: no less than 0, no more than 100. */
    private void wantedAtItsBounds() {
        BallMinder b = with(0, "w99;r0;g10");
        int[] beats = {149, 150, 151, 999, 51, 50, 49, 0};
        int[] valves = {1, 0, 0, 0, 99, 100, 100, 100};
        for (int k = 0; k < beats.length; k++) {
            due.is("valve from " + beats[k], b.after(0, beats[k], 50, 50, 1, 1), valves[k]);
        }
    }

    /** By no more than the QUOTIENT of 40 by (O and 1), no more than 1, if that is 0. */
    private void oilAtItsBounds() {
        int[] oils = {0, 1, 2, 3, 12, 13, 19, 20, 38, 39, 40, 41, 99};
        int[] steps = {40, 20, 13, 10, 3, 2, 2, 1, 1, 1, 1, 1, 1};
        for (int k = 0; k < oils.length; k++) {
            for (int kind = 1; kind <= 2; kind++) {
                BallMinder b = with(kind, "s1;o" + oils[k]);
                due.is("down with oil " + oils[k], b.after(0, 100, 100, 50, 1, 1), 100 - steps[k]);
                due.is("up with oil " + oils[k], b.after(0, 100, 0, 50, 1, 1), steps[k]);
            }
            due.is("a plain one has no oil", with(0, "o" + oils[k]).after(0, 100, 0, 50, 1, 1), 50);
        }
    }

    /** It goes towards it: never past it. */
    private void oilOfEachStep() {
        BallMinder b = with(1, "o3");
        for (int off = 0; off <= 12; off++) {
            int most = Math.min(off, 10);
            due.is("down, off by " + off, b.after(0, 100, 50 + off, 50, 1, 1), 50 + off - most);
            due.is("up, off by " + off, b.after(0, 100, 50 - off, 50, 1, 1), 50 - off + most);
        }
    }

    /** STICKY: but stays, if it is off by less than STICK. */
    private void stickAtItsBounds() {
        for (int stick : new int[] {1, 2, 5, 49, 50}) {
            BallMinder b = with(2, "o0;s" + stick);
            due.is("off by less, above", b.after(0, 100, 50 + stick - 1, 50, 1, 1), 50 + stick - 1);
            due.is("off by less, below", b.after(0, 100, 50 - stick + 1, 50, 1, 1), 50 - stick + 1);
            int left = Math.max(0, stick - 40);
            due.is("off by as much, above", b.after(0, 100, 50 + stick, 50, 1, 1), 50 + left);
            due.is("off by as much, below", b.after(0, 100, 50 - stick, 50, 1, 1), 50 - left);
        }
        due.is("an oiled one does not stick", with(1, "o0;s50").after(0, 100, 51, 50, 1, 1), 50);
        due.is("nor does a plain one", with(0, "o0;s50").after(0, 100, 51, 50, 1, 1), 50);
    }

    /** FELT is the BEAT so many TICKS ago as LATE tells; all BEATS ahead v. */
    private void feltAsLateAsTold() {
        for (int late = 0; late <= 3; late++) {
            BallMinder b = with(0, "w5;r0;g10;d" + late);
            for (int t = 1; t <= late + 1; t++) {
                tick(b, 110, 50, 50, t, 110 - 20 * t, 40);
            }
            // now the first tick's 90 is felt
            tick(b, 110, 50, 50, late + 2, 110 - 20 * late, 60);
        }
    }

    /** MISSED (-9999 .. 9999): not beyond its bounds. */
    private void missedAtItsBounds() {
        // shut and without load it stays at 999: 899 missed a tick
        BallMinder b = with(0, "w99;r0;g99;i1");
        tick(b, 999, 0, 0, 11, 999, 0, 9889);
        tick(b, 999, 0, 0, 12, 999, 0, 9999);
        tick(b, 999, 0, 0, 13, 999, 0, 9999);
        tick(b, 999, 0, 0, 300, 999, 0, 9999);
        // wide open with all load it stays at 0, and at 1: 100, 99 a tick
        tick(b, 0, 100, 100, 99, 0, 100, -9900);
        tick(b, 0, 100, 100, 100, 0, 100, -9999);
        tick(b, 0, 100, 100, 101, 0, 100, -9999);
        tick(b, 1, 100, 100, 101, 1, 100, -9999);
        tick(b, 1, 100, 100, 102, 1, 100, -9999);
    }

    private void missedComesBackFromItsBounds() {
        // shut, it falls to 100 in some 180 ticks, and below it, since so much was missed
        missedAllTheWay(with(0, "w99;r0;g1;i1"), with(0, "w99;r0;g1;i1"), 999, 50, 9999);
        // it stays at 0 till the valve is as open as the load asks, and climbs beyond 100 then
        missedAllTheWay(with(1, "w99;r0;o99;g1;i1"), with(1, "w99;r0;o99;g1;i1"), 0, 70, -9999);
    }

    /** Two mills alike, since one object is not asked for all 300 ticks twice. */
    private void missedAllTheWay(BallMinder b, BallMinder like, int v, int load, int bound) {
        int missed = 0;
        boolean atBound = false;
        boolean back = false;
        for (int t = 1; t <= 300; t++) {
            int felt = b.after(0, v, 0, load, t - 1, 0);
            missed = Math.max(-9999, Math.min(9999, missed + felt - 100));
            due.is("missed behind " + t, like.after(0, v, 0, load, t, 2), missed);
            back = back || atBound && missed != bound;
            atBound = atBound || missed == bound;
        }
        due.holds("it comes to " + bound, atBound);
        due.holds("it comes back from " + bound, back);
    }

    /** Without SECOND it stays as it is. */
    private void missedWithoutSecond() {
        BallMinder b = with(0, "w99;r0;g99;i0");
        tick(b, 999, 0, 0, 1, 999, 0, 0);
        tick(b, 999, 0, 0, 300, 999, 0, 0);
        b.turn(0, 6, 1);
        tick(b, 999, 0, 0, 1, 999, 0, 899);
    }

    /** BEAT (0 .. 999): not beyond its bounds. */
    private void beatAtItsBounds() {
        // the valve goes from 100 to 99 with 98 as load, from 0 to 1 with 2
        BallMinder b = with(1, "w1;r0;o39;g1");
        tick(b, 988, 100, 98, 1, 998);
        tick(b, 989, 100, 98, 1, 999);
        tick(b, 990, 100, 98, 1, 999);
        tick(b, 999, 100, 98, 1, 999);
        tick(b, 11, 0, 2, 1, 1);
        tick(b, 10, 0, 2, 1, 0);
        tick(b, 9, 0, 2, 1, 0);
        tick(b, 0, 0, 2, 1, 0);
    }

    /** Behind t TICKS (0 .. 300). */
    private void behindNoTicks() {
        BallMinder b = with(2, "w10;i5;d3");
        for (int v : new int[] {0, 1, 100, 999}) {
            for (int u : new int[] {0, 50, 100}) {
                tick(b, v, u, 100, 0, v, u, 0);
            }
        }
        due.is("t -1", b.after(0, 100, 50, 50, -1, 0), OUTSIDE);
        due.is("t 301", b.after(0, 100, 50, 50, 301, 0), OUTSIDE);
        for (int wrong : EXTREMES) {
            due.is("t " + wrong, b.after(0, 100, 50, 50, wrong, 0), OUTSIDE);
            due.is("what " + wrong, b.after(0, 100, 50, 50, 0, wrong), OUTSIDE);
        }
    }

    /** A sticky valve at 51 with 50 as load: 1 more each tick, since it is off by less than 50 up to a beat of 589. */
    private static BallMinder climbing() {
        return with(2, "w10;r0;g1;s50");
    }

    private void behindAllTicks() {
        BallMinder b = climbing();
        for (int t : new int[] {1, 2, 299, 300}) {
            tick(b, 100, 51, 50, t, 100 + t, 51, 0);
            tick(b, 500, 51, 52, t, 500 - t, 51, 0);
        }
    }

    /** COMES ROUND at TICK t: first for t. */
    private void comesRoundAtTheFirstTick() {
        far(with(0, "w10"), 100, 50, 50, 0, 1, 1, 100, 100);
        far(with(2, "w10;i20;d3"), 100, 50, 50, 0, 1, 1, 100, 100);
        // the valve is another at first
        far(with(0, "w10"), 100, 49, 50, 0, 2, 1, 100, 100);
    }

    /** At most 300 TICKS. NONE. */
    private void comesRoundAtTheLastTick() {
        // shut, with 1 as load, it falls by 1 a tick to 105; there the valve opens by 1 and it rests one tick later
        BallMinder b = with(0, "w10;r0;g99");
        far(b, 107, 0, 1, 0, 4, 1, 105, 107);
        far(b, 402, 0, 1, 0, 299, 1, 105, 402);
        far(b, 403, 0, 1, 0, 300, 1, 105, 403);
        far(b, 404, 0, 1, 2, NONE, NONE, 105, 404);
        far(b, 405, 0, 1, 2, NONE, NONE, 105, 405);
        far(b, 406, 0, 1, 2, NONE, NONE, 106, 406);
    }

    /** As many BEATS ahead as LATE tells: no fewer, no more. */
    private void beatsAheadAsLateTells() {
        // the brake takes 5 at once, the valve stays at 50: 105, 100, 100, 100, ..
        for (int late = 0; late <= 3; late++) {
            BallMinder b = with(0, "w10;r10;g1;d" + late);
            far(b, 105, 50, 50, 0, late + 2, 1, 100, 105);
            far(b, 100, 50, 50, 0, 1, 1, 100, 100);
        }
        // 600, 100, 0, 0, 0, 500, 999, 999, 499, 0, 0, 0, 500; shut to tick 3, 50 at 4, open to 7, shut to 11, open
        far(with(0, "w1;r0;g99;d2"), 600, 0, 50, 1, 12, 7, 0, 999);
    }

    private void beatMustBeAlike() {
        // shut all the way from 999 to 103, by 8 a tick: valves alike, beats not
        BallMinder b = with(0, "w10;r0;g99");
        tick(b, 999, 0, 8, 111, 111, 0, 0);
        tick(b, 999, 0, 8, 112, 103, 0, 0);
        due.holds("it does not come round ahead of that", b.far(0, 999, 0, 8, 1) > 112);
    }

    private void missedMustBeAlike() {
        // the wheel is so heavy that the beat stays at 101, while 1 more is missed each tick
        far(with(0, "w99;r0;g1;i3"), 101, 50, 46, 2, NONE, NONE, 101, 101);
        tick(with(0, "w99;r0;g1;i3"), 101, 50, 46, 300, 101, 41, 300);
        far(with(0, "w99;r0;g1;i0"), 101, 50, 46, 0, 1, 1, 101, 101);
        // at its bound it stays: 9999 at tick 12
        far(with(0, "w99;r0;g99;i1"), 999, 0, 0, 0, 13, 1, 999, 999);
    }

    /** REST: a RING of 1. */
    private void restIsARingOfOne() {
        far(with(0, "w10;r0;g10"), 110, 50, 50, 0, 3, 1, 100, 110);
        // 101, 99, 101, 99: the valve is 49, 51, 49
        far(with(0, "w5;r0;g10"), 101, 50, 50, 1, 3, 2, 99, 101);
        far(with(0, "w5;r0;g10"), 101, 51, 50, 1, 2, 2, 99, 101);
    }

    /** LOWEST, GREATEST BEAT: of TICKS 0 .. t. */
    private void lowestAndGreatestFromTheFirstTick() {
        far(with(0, "w10;r0;g10"), 90, 50, 50, 0, 3, 1, 90, 100);
        far(with(0, "w10;r0;g10"), 110, 50, 50, 0, 3, 1, 100, 110);
        // with 20 as load: 30 up at once, and there the valve is 20
        far(with(0, "w10;r0;g10"), 100, 50, 20, 0, 3, 1, 100, 130);
    }

    /** Of TICKS 0 .. 300, where it does not come round. */
    private void lowestAndGreatestToTheLastTick() {
        far(climbing(), 100, 51, 50, 2, NONE, NONE, 100, 400);
        far(climbing(), 500, 51, 52, 2, NONE, NONE, 200, 500);
    }

    /** FROM a BEAT v, a VALVE u, with a LOAD (0 .. 100). */
    private void fromItsBounds() {
        BallMinder b = with(0, "w10;r0;g10");
        // 0 with 0 as load: open, 100 up a tick: 100, then 50 open: 150, shut: 150
        far(b, 0, 0, 0, 0, 4, 1, 0, 150);
        // 999 with 100 as load: shut, 100 down a tick to 99, there 51 open: 49 down to 50, there open: 50 for ever
        far(b, 999, 100, 100, 0, 12, 1, 50, 999);
        for (int wrong : EXTREMES) {
            far(b, wrong, 50, 50, OUTSIDE);
            far(b, 100, wrong, 50, OUTSIDE);
            far(b, 100, 50, wrong, OUTSIDE);
            due.is("what " + wrong, b.far(0, 100, 50, 50, wrong), OUTSIDE);
            due.is("mill " + wrong, b.far(wrong, 100, 50, 50, 0), UNKNOWN);
            due.is("reach of mill " + wrong, b.reach(wrong), UNKNOWN);
        }
    }

    /** REACH: the greatest n (0 .. 99). */
    private void reachOfNothingAndAll() {
        due.is("all", with(0, "w10;r0;g10").reach(0), 99);
        due.is("nothing but 100", with(0, "w5;r0;g10").reach(0), 0);
    }

    /** FROM each BEAT of 100 to (100 and n). */
    private void reachStopsAtTheFirst() {
        // from 101 it rings: 2 down, 2 up; from 117 it is shut and comes to 100 at once
        BallMinder b = with(0, "w28;r0;g60");
        due.is("it rings from 101", b.far(0, 101, 50, 50, 0), 1);
        due.is("it rests from 117", b.far(0, 117, 50, 50, 0), 0);
        due.is("reach", b.reach(0), 0);
        b = with(0, "w18;r2;g34");
        due.is("it rings from 105", b.far(0, 105, 50, 50, 0), 1);
        due.is("it rests from 126", b.far(0, 126, 50, 50, 0), 0);
        due.is("reach", b.reach(0), 4);
    }

    /** It comes to REST in at most 300 TICKS. */
    private void reachWithinAllTicks() {
        BallMinder b = with(0, "w55;r3;g11;i4");
        boolean last = false;
        for (int n = 0; n <= 43; n++) {
            last = last || b.far(0, 100 + n, 50, 50, 1) == 300;
            due.is("from " + (100 + n), b.far(0, 100 + n, 50, 50, 0), 0);
        }
        due.holds("one of them rests at tick 300", last);
        due.is("the next would rest at 301", b.far(0, 144, 50, 50, 0), 2);
        due.is("reach", b.reach(0), 43);
    }

    private void reachFromAboveAlone() {
        BallMinder b = with(1, "w1;r0;o4;g36");
        due.is("from 99 it does not rest", b.far(0, 99, 50, 50, 0) == 0 ? 1 : 0, 0);
        due.is("from 101 it does", b.far(0, 101, 50, 50, 0), 0);
        due.is("reach", b.reach(0), 1);
    }

    /** NONE: not even FROM 100; there nothing ever moves, whatever the numbers are. */
    private void reachIsNeverNone() {
        String[] texts = {"w1;r0;g99;i20;d3", "w99;r20;g1;i20;d3;o99;s50", "w1;r20;g99;i20;d3;o0;s1", "w1;r0;b99;k0"};
        for (String text : texts) {
            for (int kind = 0; kind < 3; kind++) {
                due.holds(text + " reaches 0", with(kind, text).reach(0) >= 0);
            }
        }
    }
}
