/** Short ways to lay texts and rows on sheets, for the tests. */
final class Texts {
    private Texts() {
    }

    /** Lays codes on sheet k as a row of a lane. */
    static void lay(BallMinder b, int k, int lane, int... codes) {
        b.sheet(k, lane, codes.length);
        for (int i = 0; i < codes.length; i++) {
            b.put(k, i, codes[i]);
        }
    }

    static int[] codes(String text) {
        int[] codes = new int[text.length()];
        for (int i = 0; i < codes.length; i++) {
            codes[i] = text.charAt(i);
        }
        return codes;
    }

    /** A mill by a drawing, laid on sheet 3 as bytes. */
    static int drawn(BallMinder b, int kind, String text) {
        lay(b, 3, 0, codes(text));
        return b.mill(kind, 3, 0, 0, text.length());
    }

    static int watched(BallMinder b, int... beats) {
        lay(b, 3, 2, beats);
        return b.watch(3, 2, 0, beats.length);
    }
}
