import java.util.Arrays;

/** Promises 12 to 17: far, after, reach, two, share, best. The runs are worked out by hand. */
public final class FarTest {
    private static final int UNKNOWN = BallMinder.UNKNOWN, OUTSIDE = BallMinder.OUTSIDE, NONE = BallMinder.NONE;
    private static final long LOST = BallMinder.LOST;

    public static void main(String[] args) {
        Due due = new Due();
        quotientsAreCut(due);
        valvesOfEachKind(due);
        feltLate(due);
        whatWasMissed(due);
        boundsOfTheBeat(due);
        restRingNeither(due);
        refusalsOfFarAndAfter(due);
        reaches(due);
        twoOnAShaft(due);
        shares(due);
        bests(due);
        due.end();
    }

    private static BallMinder with(int kind, String text) {
        BallMinder b = new BallMinder();
        Texts.drawn(b, kind, text);
        return b;
    }

    private static void tick(Due due, BallMinder b, int v, int u, int load, int t, int... bvm) {
        for (int what = 0; what < bvm.length; what++) {
            String call = "after(0, " + v + ", " + u + ", " + load + ", " + t + ", " + what + ")";
            due.is(call, b.after(0, v, u, load, t, what), bvm[what]);
        }
    }

    private static void quotientsAreCut(Due due) {
        BallMinder b = with(0, "w10;r1;g15");
        tick(due, b, 99, 50, 50, 0, 99, 50, 0);
        // -15 by 10 is -1: 51; 10 + 1 by 10 is 1
        tick(due, b, 99, 50, 50, 1, 100, 51, 0);
        // 15 by 10 is 1: 49; -10 - 1 by 10 is -1
        tick(due, b, 101, 50, 50, 1, 100, 49, 0);
        b = with(0, "w10;r1;g1");
        tick(due, b, 95, 50, 50, 1, 95, 50, 0);
        tick(due, b, 105, 50, 50, 1, 105, 50, 0);
        tick(due, b, 105, 50, 50, 300, 105, 50, 0);
    }

    private static void valvesOfEachKind(Due due) {
        tick(due, with(0, "w10;o9;s50"), 100, 90, 50, 1, 100, 50);
        tick(due, with(1, "w10;o9;s50;r0"), 100, 90, 50, 1, 136, 86);
        tick(due, with(1, "w10;o0;r0"), 100, 95, 50, 1, 105, 55);
        tick(due, with(1, "w10;o0;r0"), 100, 90, 50, 1, 100, 50);
        tick(due, with(1, "w10;o0;r0"), 100, 9, 50, 1, 99, 49);
        tick(due, with(1, "w10;o38;r0"), 100, 60, 50, 1, 109, 59);
        tick(due, with(1, "w10;o39;r0"), 100, 60, 50, 1, 109, 59);
        tick(due, with(1, "w10;o40;r0"), 100, 60, 50, 1, 109, 59);
        tick(due, with(1, "w10;o99;r0"), 100, 40, 50, 1, 91, 41);
        tick(due, with(1, "w10;o12;r0"), 100, 40, 50, 1, 93, 43);
        tick(due, with(2, "w10;o39;s5;r0"), 100, 54, 50, 1, 104, 54);
        tick(due, with(2, "w10;o39;s5;r0"), 100, 55, 50, 1, 104, 54);
        tick(due, with(2, "w10;o39;s5;r0"), 100, 46, 50, 1, 96, 46);
        tick(due, with(2, "w10;o39;s5;r0"), 100, 45, 50, 1, 96, 46);
        tick(due, with(2, "w10;o39;s1;r0"), 100, 51, 50, 1, 100, 50);
        // WANTED is kept from 0 to 100
        tick(due, with(0, "w10;r0;g99"), 999, 50, 50, 1, 949, 0);
        tick(due, with(0, "w10;r0;g99"), 0, 50, 50, 1, 50, 100);
    }

    private static void feltLate(Due due) {
        BallMinder b = with(0, "w10;r0;g10;d1");
        int[] beats = {110, 100, 90, 90, 100, 110, 110, 100, 90};
        int[] valves = {50, 40, 40, 50, 60, 60, 50, 40, 40};
        for (int t = 0; t < beats.length; t++) {
            tick(due, b, 110, 50, 50, t, beats[t], valves[t], 0);
        }
        due.is("comes round", b.far(0, 110, 50, 50, 1), 6);
        due.is("ring", b.far(0, 110, 50, 50, 2), 6);
        due.is("a ring", b.far(0, 110, 50, 50, 0), 1);
        due.is("lowest", b.far(0, 110, 50, 50, 3), 90);
        due.is("greatest", b.far(0, 110, 50, 50, 4), 110);
        b = with(0, "w10;r0;g10;d3");
        int[] latest = {110, 100, 90, 80, 70, 70, 80, 100};
        for (int t = 0; t < latest.length; t++) {
            tick(due, b, 110, 50, 50, t, latest[t]);
        }
    }

    private static void whatWasMissed(Due due) {
        BallMinder b = with(0, "w10;r0;g10;i10");
        tick(due, b, 110, 50, 50, 1, 100, 40, 10);
        tick(due, b, 110, 50, 50, 2, 99, 49, 10);
        tick(due, b, 110, 50, 50, 3, 99, 50, 9);
        tick(due, b, 110, 50, 50, 4, 99, 50, 8);
        // -10 and 7, 6, .. by 10 are 0, of -1 on, too: MISSED falls till -1 - 9 is -10
        tick(due, b, 110, 50, 50, 12, 99, 50, 0);
        tick(due, b, 110, 50, 50, 13, 100, 51, -1);
        b = with(0, "w99;r0;g1;i1");
        // shut, it drops by 1000 by 99 a tick; 899 + 889 + .. are beyond 9999
        tick(due, b, 999, 50, 100, 12, 879, 0, 9999);
        b = with(0, "w99;r0;g1;i0");
        due.is("without SECOND", b.after(0, 999, 50, 100, 12, 2), 0);
    }

    private static void boundsOfTheBeat(Due due) {
        tick(due, with(1, "w1;r0;o99"), 999, 100, 0, 1, 999, 99);
        tick(due, with(1, "w1;r0;o99"), 20, 100, 0, 1, 999, 100);
        tick(due, with(1, "w1;r0;o99"), 999, 0, 100, 1, 0, 0);
        tick(due, with(1, "w1;r0;o99"), 0, 0, 100, 1, 0, 1);
    }

    private static void restRingNeither(Due due) {
        BallMinder b = with(0, "w10;r0;g10");
        due.is("rest", b.far(0, 110, 50, 50, 0), 0);
        // (110, 50), (100, 40), (100, 50), (100, 50)
        due.is("comes round", b.far(0, 110, 50, 50, 1), 3);
        due.is("ring", b.far(0, 110, 50, 50, 2), 1);
        due.is("lowest", b.far(0, 110, 50, 50, 3), 100);
        due.is("greatest", b.far(0, 110, 50, 50, 4), 110);
        due.is("at once", b.far(0, 100, 50, 50, 1), 1);
        // (100, 0), (100, 50), (100, 50)
        due.is("valve at first", b.far(0, 100, 0, 50, 1), 2);
        b = with(0, "w5;r0;g10");
        // 110, 90, 110: the valve is 50 at tick 0 and 60 at tick 2
        due.is("a ring", b.far(0, 110, 50, 50, 0), 1);
        due.is("comes round", b.far(0, 110, 50, 50, 1), 3);
        due.is("its length", b.far(0, 110, 50, 50, 2), 2);
        firstAlike(due, "w10;r0;g1;i15", 105, NONE);
        firstAlike(due, "w9;r1;g28;i9", 115, 300);
        firstAlike(due, "w5;r1;g10;i8", 129, 299);
        firstAlike(due, "w9;r0;g20;i9", 103, 0);
    }

    /** What far tells of a run without LATE, against all its ticks as after tells them; due is t, if it is not 0. */
    private static void firstAlike(Due due, String text, int v, int t) {
        int[][] ticks = new int[301][3];
        for (int what = 0; what < 3; what++) {
            BallMinder b = with(0, text);
            for (int k = 0; k <= 300; k++) {
                ticks[k][what] = b.after(0, v, 50, 50, k, what);
            }
        }
        int round = NONE;
        int apart = NONE;
        int lowest = v;
        int greatest = v;
        for (int k = 1; k <= 300 && round == NONE; k++) {
            lowest = Math.min(lowest, ticks[k][0]);
            greatest = Math.max(greatest, ticks[k][0]);
            for (int s = 0; s < k; s++) {
                if (Arrays.equals(ticks[s], ticks[k])) {
                    round = k;
                    apart = k - s;
                }
            }
        }
        BallMinder b = with(0, text);
        due.is(text + " ends", b.far(0, v, 50, 50, 0), apart == NONE ? 2 : apart == 1 ? 0 : 1);
        due.is(text + " comes round", b.far(0, v, 50, 50, 1), round);
        due.is(text + " comes round, as known", round, t == 0 ? round : t);
        due.is(text + " ring", b.far(0, v, 50, 50, 2), apart);
        due.is(text + " lowest", b.far(0, v, 50, 50, 3), lowest);
        due.is(text + " greatest", b.far(0, v, 50, 50, 4), greatest);
    }

    private static void refusalsOfFarAndAfter(Due due) {
        BallMinder b = with(0, "w10");
        int[][] wrong = {{-1, 50, 50}, {1000, 50, 50}, {100, -1, 50}, {100, 101, 50}, {100, 50, -1}, {100, 50, 101}};
        for (int[] w : wrong) {
            due.is("far", b.far(0, w[0], w[1], w[2], 0), OUTSIDE);
            due.is("far, mill 1", b.far(1, w[0], w[1], w[2], 0), UNKNOWN);
            due.is("after", b.after(0, w[0], w[1], w[2], 0, 0), OUTSIDE);
            due.is("after, mill -1", b.after(-1, w[0], w[1], w[2], 0, 0), UNKNOWN);
        }
        due.is("far what 5", b.far(0, 100, 50, 50, 5), OUTSIDE);
        due.is("far what -1", b.far(0, 100, 50, 50, -1), OUTSIDE);
        due.is("after what 3", b.after(0, 100, 50, 50, 0, 3), OUTSIDE);
        due.is("after what -1", b.after(0, 100, 50, 50, 0, -1), OUTSIDE);
        due.is("after t 301", b.after(0, 100, 50, 50, 301, 0), OUTSIDE);
        due.is("after t -1", b.after(0, 100, 50, 50, -1, 0), OUTSIDE);
        due.is("all bounds", b.after(0, 0, 0, 0, 0, 0), 0);
        due.is("all bounds", b.after(0, 999, 100, 100, 0, 1), 100);
    }

    private static void reaches(Due due) {
        BallMinder b = with(0, "w10;r0;g10");
        due.is("reach of what always rests", b.reach(0), 99);
        due.is("mill 1", b.reach(1), UNKNOWN);
        due.is("mill -1", b.reach(-1), UNKNOWN);
        // from 100 it rests; from 101 it feels 1: 50 - 1 = 49 shuts by 10 of 5: 99, 101, 99: a ring
        b = with(0, "w5;r0;g10");
        due.is("reach of what rings from 101 on", b.reach(0), 0);
        // off by 4: 3 less, by 7 down: -3: 2 more, by 5 up: 2: 1 less, by 2 down: 0; off by 5: 4 less, by 10 down: -5
        b = with(0, "w4;r0;g8");
        due.is("reach of what rings from 105 on", b.reach(0), 4);
        for (int n = 0; n <= 5; n++) {
            due.is("as far tells", b.far(0, 100 + n, 50, 50, 0), n == 5 ? 1 : 0);
        }
    }

    private static void twoOnAShaft(Due due) {
        BallMinder b = with(0, "w10;r0;g10");
        Texts.drawn(b, 0, "w10;r0;g20");
        due.is("at rest", b.two(0, 1, 100, 100, 0), 0);
        due.is("at once", b.two(0, 1, 100, 100, 1), 1);
        due.is("valve of the one", b.two(0, 1, 100, 100, 5), 50);
        due.is("valve of the other", b.two(0, 1, 100, 100, 6), 50);
        // from 100 with 70: 50, 50: 300 by 20 is 15: 115; 35, 20: -150 by 20 is -7: 108; 42, 34: 60 by 20 is 3: 111;
        // 39, 28: -30 by 20 is -1: 110; 40, 30: 0: 110; and once more
        due.is("rest", b.two(0, 1, 100, 70, 0), 0);
        due.is("comes round", b.two(0, 1, 100, 70, 1), 6);
        due.is("ring", b.two(0, 1, 100, 70, 2), 1);
        due.is("lowest", b.two(0, 1, 100, 70, 3), 100);
        due.is("greatest", b.two(0, 1, 100, 70, 4), 115);
        due.is("valve of the one", b.two(0, 1, 100, 70, 5), 40);
        due.is("valve of the other", b.two(0, 1, 100, 70, 6), 30);
        due.is("the other way round", b.two(1, 0, 100, 70, 5), 30);
        // both brakes: from 120 WANTED is 48 of each: 960 - 960 - (3 + 4) 20 by 20 is -7
        b = with(0, "w10;r3;g1");
        Texts.drawn(b, 0, "w10;r4;g1");
        due.is("both brakes pull", b.two(0, 1, 120, 96, 3) < 114 ? 1 : 0, 1);
        due.is("load 200", b.two(0, 1, 120, 200, 0) >= 0 ? 1 : 0, 1);
        due.is("load 0", b.two(0, 1, 120, 0, 0) >= 0 ? 1 : 0, 1);
        due.is("v 0", b.two(0, 1, 0, 100, 3), 0);
        due.is("load 201", b.two(0, 1, 120, 201, 0), OUTSIDE);
        due.is("load -1", b.two(0, 1, 120, -1, 0), OUTSIDE);
        due.is("v -1", b.two(0, 1, -1, 0, 0), OUTSIDE);
        due.is("v 1000", b.two(0, 1, 1000, 0, 0), OUTSIDE);
        due.is("what 7", b.two(0, 1, 100, 0, 7), OUTSIDE);
        due.is("what -1", b.two(0, 1, 100, 0, -1), OUTSIDE);
        due.is("both are one", b.two(1, 1, 100, 0, 0), OUTSIDE);
        due.is("both are one that is not", b.two(2, 2, 100, 0, 0), UNKNOWN);
        due.is("the other is not", b.two(0, 2, 1000, 0, 0), UNKNOWN);
        due.is("the one is not", b.two(-1, 0, 100, 0, 0), UNKNOWN);
        twoOfUnlikeLate(due);
    }

    private static void twoOfUnlikeLate(Due due) {
        // from 110: 40, 40: -200 by 20: 100; 50, 40: 95; 55, 50: 97; 53, 55: 101; 49, 53: 102; 48, 49: 101; 49, 48:
        // 100; 50, 49: 100; 50, 50: 100 (the ninth); and once more
        BallMinder b = with(0, "w10;r0;g10");
        Texts.drawn(b, 0, "w10;r0;g10;d1");
        for (int turned = 0; turned < 2; turned++) {
            due.is("rest", b.two(turned, 1 - turned, 110, 100, 0), 0);
            due.is("comes round", b.two(turned, 1 - turned, 110, 100, 1), 10);
            due.is("lowest", b.two(turned, 1 - turned, 110, 100, 3), 95);
            due.is("greatest", b.two(turned, 1 - turned, 110, 100, 4), 110);
        }
    }

    private static void shares(Due due) {
        BallMinder b = with(0, "g10;k5");
        Texts.drawn(b, 0, "g6;k3");
        Texts.drawn(b, 0, "g6;k0");
        Texts.drawn(b, 0, "g6;k1;i1");
        Texts.drawn(b, 0, "g1;k1");
        due.is("like ones", b.share(0, 1, 0), 1);
        due.is("like ones, lower", b.share(0, 1, 1), 2);
        due.is("2 of 3", b.share(0, 4, 0), 2);
        due.is("2 of 3, lower", b.share(0, 4, 1), 3);
        due.is("1 of 3", b.share(4, 0, 0), 1);
        long[] lost = {b.share(0, 2, 0), b.share(2, 0, 0), b.share(0, 3, 0), b.share(3, 0, 0), b.share(0, 0, 0),
            b.share(0, 5, 0), b.share(-1, 0, 0), b.share(0, 1, 2), b.share(0, 1, -1)};
        for (long l : lost) {
            due.is("share", l, LOST);
        }
    }

    private static void bests(Due due) {
        BallMinder b = new BallMinder();
        due.is("none at all", b.best(0, 50), NONE);
        due.is("none there is", b.best(1, 50), OUTSIDE);
        due.is("none there is, the highest bit", b.best(Integer.MIN_VALUE, 50), OUTSIDE);
        Texts.drawn(b, 0, "w5;r0;g10");
        Texts.drawn(b, 0, "w50;r0;g20");
        Texts.drawn(b, 0, "w50;r0;g20;s7");
        due.is("of all", b.best(7, 80), 1);
        due.is("of the last two", b.best(6, 80), 1);
        due.is("of the first and the last", b.best(5, 80), 2);
        due.is("of one", b.best(1, 80), 0);
        due.is("all alike", b.best(7, 50), 0);
        due.is("of none", b.best(0, 80), NONE);
        due.is("bit 3", b.best(8, 80), OUTSIDE);
        due.is("all bits", b.best(-1, 80), OUTSIDE);
        due.is("load 0", b.best(6, 0), 1);
        due.is("load 100", b.best(6, 100), 1);
        due.is("load 101", b.best(7, 101), OUTSIDE);
        due.is("load -1", b.best(0, -1), OUTSIDE);
        for (int k = 3; k < 8; k++) {
            Texts.drawn(b, 0, "w50;r0;g20");
        }
        due.is("eight", b.best(255, 80), 1);
        due.is("bit 8", b.best(256, 80), OUTSIDE);
    }
}
