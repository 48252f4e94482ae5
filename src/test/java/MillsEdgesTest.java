/** The edges that the document names in section 1 and promises 1 to 4; above each test the sentence it holds to. */
public final class MillsEdgesTest {
    private static final int UNKNOWN = BallMinder.UNKNOWN, OUTSIDE = BallMinder.OUTSIDE, FULL = BallMinder.FULL;
    private static final String LETTERS = "wrbokgids";
    private static final int[] LEAST = {1, 0, 1, 0, 0, 1, 0, 0, 1};
    private static final int[] GREATEST = {99, 20, 99, 99, 99, 99, 20, 3, 50};
    /** As many codes as a text may have; cut behind a first digit each number is still as told. */
    private static final String LONGEST = "w99;r20;b99;o99;k99;g99;i20;d03;s50";
    private static final int FIRST_CODE = -128, LAST_CODE = 127;

    private final Due due = new Due();

    public static void main(String[] args) {
        MillsEdgesTest test = new MillsEdgesTest();
        test.nothingAtFirst();
        test.eightEver();
        test.atFirst();
        test.oneToNineItems();
        test.everyCodeAtFirst();
        test.everyCodeBehindALetter();
        test.everyCodeBehindADigit();
        test.everyCodeBehindTwoDigits();
        test.everyCodeBehindAnItem();
        test.everyCodeBehindNineItems();
        test.codesBeyondAByte();
        test.noLetterTwice();
        test.justEndsTooSoon();
        test.numberNotAsToldAtEachPlace();
        test.leadingZeros();
        test.firstOfSeveralFaults();
        test.cellsAheadAndBehind();
        test.noneTaken();
        test.lastCellsOfARow();
        test.sizesBelowNothing();
        test.numbersOfAMill();
        test.turnedToItsBounds();
        test.due.end();
    }

    private void drawn(String text, int want) {
        BallMinder b = new BallMinder();
        due.is("mill by \"" + text + "\"", Texts.drawn(b, 0, text), want);
        due.is("fault() behind \"" + text + "\"", b.fault(), 0);
        due.is("many(0) behind \"" + text + "\"", b.many(0), want == 0 ? 1 : 0);
    }

    private void laid(int[] codes, int want) {
        for (int lane = 0; lane < 3; lane++) {
            BallMinder b = new BallMinder();
            Texts.lay(b, 0, lane, codes);
            String call = "mill by " + java.util.Arrays.toString(codes) + " of lane " + lane;
            due.is(call, b.mill(0, 0, lane, 0, codes.length), want);
        }
    }

    private static boolean isDigit(int code) {
        return code >= 48 && code <= 57;
    }

    private static int[] behind(String text, int code) {
        int[] codes = Texts.codes(text + "?");
        codes[text.length()] = code;
        return codes;
    }

    /** BallMinder(): No MILLS, SHEETS. WATCHED: none at first. TRACE: 0 at first. fault(): 0 ahead of any. */
    private void nothingAtFirst() {
        BallMinder b = new BallMinder();
        due.is("fault()", b.fault(), 0);
        due.is("trace()", b.trace(), 0);
        due.is("many(0)", b.many(0), 0);
        due.is("many(1)", b.many(1), 0);
        for (int x = -1; x <= 8; x++) {
            due.is("ofMill(" + x + ", 0)", b.ofMill(x, 0), UNKNOWN);
            due.is("near(" + x + ")", b.near(x), UNKNOWN);
        }
        for (int k = 0; k < 4; k++) {
            due.is("put", b.put(k, 0, 1), -11);
            due.is("copy", b.copy(k, 0, k, 0, 0), -11);
            due.is("lose", b.lose(k), 0);
        }
        due.is("best of none", b.best(0, 50), BallMinder.NONE);
    }

    /** MILLS, 8 ever, numbered as they come. FULL. */
    private void eightEver() {
        BallMinder b = new BallMinder();
        for (int x = 0; x < 8; x++) {
            due.is("a drawing that is wrong takes no number", Texts.drawn(b, 0, "w"), -101);
            due.is("nor does a fault", b.mill(0, 3, 1, 0, 1), -12);
            due.is("nor does a refusal", b.mill(3, 3, 0, 0, 1), OUTSIDE);
            due.is("the mill ahead of it is not there", b.ofMill(x, 9), UNKNOWN);
            due.is("mill " + x, Texts.drawn(b, x % 3, "w" + (x + 1)), x);
            due.is("many(0)", b.many(0), x + 1);
        }
        due.is("the ninth", Texts.drawn(b, 0, "w9"), FULL);
        due.is("the tenth", Texts.drawn(b, 2, "w9"), FULL);
        due.is("fault()", b.fault(), 0);
        due.is("many(0)", b.many(0), 8);
        due.is("mill 8", b.ofMill(8, 0), UNKNOWN);
        for (int x = 0; x < 8; x++) {
            due.is("wheel", b.ofMill(x, 0), x + 1);
            due.is("kind", b.ofMill(x, 9), x % 3);
        }
    }

    /** Each has 9 NUMBERS (letter, least, greatest, at first). */
    private void atFirst() {
        int[] first = {10, 1, 1, 5, 5, 10, 0, 0, 5};
        for (int k = 0; k < 9; k++) {
            BallMinder b = new BallMinder();
            for (int kind = 0; kind < 3; kind++) {
                Texts.drawn(b, kind, LETTERS.charAt(k) + "2");
                for (int what = 0; what < 9; what++) {
                    due.is("ofMill(" + kind + ", " + what + ")", b.ofMill(kind, what), what == k ? 2 : first[what]);
                }
            }
        }
    }

    /** 1 to 9 items with ; between. */
    private void oneToNineItems() {
        drawn("", -100);
        String text = "";
        for (int items = 1; items <= 9; items++) {
            text += (items == 1 ? "" : ";") + LETTERS.charAt(items - 1) + "1";
            drawn(text, 0);
        }
        // a tenth item could but bear a letter twice
        drawn(text + ";w1", -126);
        drawn(text + ";", -126);
    }

    /** A letter. FIRST FAULT: the place of the first code with which no TEXT goes on. */
    private void everyCodeAtFirst() {
        for (int code = FIRST_CODE; code <= LAST_CODE; code++) {
            boolean letter = code > 0 && LETTERS.indexOf(code) >= 0;
            laid(new int[] {code, 49}, letter ? 0 : -100);
        }
    }

    /** A letter, and its number, of one or two digits. */
    private void everyCodeBehindALetter() {
        for (int code = FIRST_CODE; code <= LAST_CODE; code++) {
            laid(behind("o", code), isDigit(code) ? 0 : -101);
        }
    }

    private void everyCodeBehindADigit() {
        for (int code = FIRST_CODE; code <= LAST_CODE; code++) {
            laid(behind("w5", code), isDigit(code) ? 0 : code == 59 ? -103 : -102);
        }
    }

    private void everyCodeBehindTwoDigits() {
        for (int code = FIRST_CODE; code <= LAST_CODE; code++) {
            laid(behind("w55", code), code == 59 ? -104 : -103);
        }
    }

    private void everyCodeBehindAnItem() {
        for (int code = FIRST_CODE; code <= LAST_CODE; code++) {
            boolean another = code > 0 && "rbokgids".indexOf(code) >= 0;
            laid(behind("w5;", code), another ? -104 : -103);
        }
    }

    private void everyCodeBehindNineItems() {
        for (int code = FIRST_CODE; code <= LAST_CODE; code++) {
            laid(behind(LONGEST, code), -135);
        }
    }

    /** Codes are numbers of cells: they are not cut when they are read. */
    private void codesBeyondAByte() {
        for (int off : new int[] {-65536, -256, 256, 512, 65536}) {
            int lane = Math.abs(off) < 32768 ? 1 : 2;
            for (int place = 0; place < 5; place++) {
                BallMinder b = new BallMinder();
                int[] codes = Texts.codes("w5;g9");
                codes[place] += off;
                Texts.lay(b, 1, lane, codes);
                due.is("code " + codes[place] + " at " + place, b.mill(0, 1, lane, 0, 5), -100 - place);
            }
        }
    }

    /** No letter twice. */
    private void noLetterTwice() {
        for (int k = 0; k < 9; k++) {
            String item = LETTERS.charAt(k) + "1";
            String other = LETTERS.charAt((k + 1) % 9) + "1";
            drawn(item + ";" + item, -103);
            drawn(item + ";" + other + ";" + item, -106);
            drawn(item + ";" + other + ";" + LETTERS.charAt(k), -106);
            drawn(item + ";" + other, 0);
        }
    }

    /** How many codes there are, if it just ends too soon. */
    private void justEndsTooSoon() {
        for (int n = 0; n <= LONGEST.length(); n++) {
            boolean ends = n > 0 && isDigit(LONGEST.charAt(n - 1));
            drawn(LONGEST.substring(0, n), ends ? 0 : -100 - n);
        }
    }

    /** Of a number that is not as told its first digit. */
    private void numberNotAsToldAtEachPlace() {
        String[] wrong = {"w0", "w00", "r21", "r99", "b0", "g0", "i21", "i90", "d4", "d10", "s0", "s51", "s99"};
        for (String item : wrong) {
            StringBuilder ahead = new StringBuilder();
            for (int k = 0; k < 9; k++) {
                if (LETTERS.charAt(k) != item.charAt(0)) {
                    drawn(ahead + item, -101 - ahead.length());
                    drawn(ahead + item + ";", -101 - ahead.length());
                    drawn(ahead + item + "x", -101 - ahead.length());
                    ahead.append(LETTERS.charAt(k)).append(k % 2 == 0 ? "2;" : "03;");
                }
            }
            drawn(ahead + item, -101 - ahead.length());
        }
    }

    /** Of one or two digits, as told. */
    private void leadingZeros() {
        for (int k = 0; k < 9; k++) {
            BallMinder b = new BallMinder();
            due.is("one digit", Texts.drawn(b, 0, LETTERS.charAt(k) + "3"), 0);
            due.is("two digits", Texts.drawn(b, 0, LETTERS.charAt(k) + "03"), 1);
            due.is("three digits", Texts.drawn(b, 0, LETTERS.charAt(k) + "003"), LEAST[k] == 0 ? -103 : -101);
            due.is("3", b.ofMill(0, k), 3);
            due.is("03", b.ofMill(1, k), 3);
        }
    }

    /** The place of the FIRST code with which no TEXT goes on. */
    private void firstOfSeveralFaults() {
        drawn("xw", -100);
        drawn("w0;x", -101);
        drawn("wx;y", -101);
        drawn("w5xr21", -102);
        drawn("w5;r21;w", -104);
        drawn("w5;w0", -103);
        drawn("w100;w0", -103);
    }

    /** n cells of a SHEET from i on. */
    private void cellsAheadAndBehind() {
        BallMinder b = new BallMinder();
        Texts.lay(b, 0, 0, Texts.codes("77w12;o34"));
        due.is("the digit behind is not read", b.mill(0, 0, 0, 2, 2), 0);
        due.is("w1", b.ofMill(0, 0), 1);
        due.is("the item behind is not read", b.mill(0, 0, 0, 2, 3), 1);
        due.is("w12", b.ofMill(1, 0), 12);
        due.is("o at first", b.ofMill(1, 3), 5);
        due.is("the ; behind it is", b.mill(0, 0, 0, 2, 4), -104);
        due.is("the cells ahead are not read", b.mill(0, 0, 0, 6, 3), 2);
        due.is("w at first", b.ofMill(2, 0), 10);
        due.is("o34", b.ofMill(2, 3), 34);
        due.is("places are from i on", b.mill(0, 0, 0, 1, 3), -100);
    }

    /** INDEX: of cells from i on also where i is not 0 .. how many there are, if none of them is taken, too. */
    private void noneTaken() {
        for (int cells = 0; cells <= 60; cells += 20) {
            BallMinder b = new BallMinder();
            b.sheet(0, 0, cells);
            for (int i : new int[] {0, cells}) {
                due.is("none of " + cells + " from " + i + " on", b.mill(0, 0, 0, i, 0), -100);
                due.is("fault()", b.fault(), 0);
            }
            for (int i : new int[] {-1, cells + 1, Integer.MIN_VALUE, Integer.MAX_VALUE}) {
                due.is("none of " + cells + " from " + i + " on", b.mill(0, 0, 0, i, 0), -13);
                due.is("fault()", b.fault(), 3);
            }
        }
    }

    private void lastCellsOfARow() {
        BallMinder b = new BallMinder();
        b.sheet(0, 0, 60);
        int from = 60 - LONGEST.length();
        for (int k = 0; k < LONGEST.length(); k++) {
            b.put(0, from + k, LONGEST.charAt(k));
        }
        due.is("one cell too many", b.mill(0, 0, 0, from, LONGEST.length() + 1), -13);
        due.is("fault()", b.fault(), 3);
        due.is("one place too far", b.mill(0, 0, 0, from + 1, LONGEST.length()), -13);
        due.is("to the last cell", b.mill(2, 0, 0, from, LONGEST.length()), 0);
        int[] drawn = {99, 20, 99, 99, 99, 99, 20, 3, 50};
        for (int what = 0; what < 9; what++) {
            due.is("ofMill(0, " + what + ")", b.ofMill(0, what), drawn[what]);
        }
        due.is("the last cell alone", b.mill(0, 0, 0, 59, 1), -100);
        due.is("all 60", b.mill(0, 0, 0, 0, 60), -100);
    }

    /** SIZE: n below 0. */
    private void sizesBelowNothing() {
        BallMinder b = new BallMinder();
        Texts.lay(b, 0, 0, Texts.codes("w5"));
        for (int n : new int[] {-1, -2, Integer.MIN_VALUE}) {
            for (int i : new int[] {0, 2, 3, -1, Integer.MAX_VALUE, Integer.MIN_VALUE}) {
                due.is("n " + n + " from " + i + " on", b.mill(0, 0, 0, i, n), -14);
                due.is("fault()", b.fault(), 4);
            }
        }
    }

    /** A NUMBER of a MILL (0 .. 8), its kind (9). UNKNOWN: MILL, what. */
    private void numbersOfAMill() {
        BallMinder b = new BallMinder();
        for (int kind = 0; kind < 3; kind++) {
            Texts.drawn(b, kind, LONGEST);
            for (int what = 0; what < 9; what++) {
                due.is("ofMill(" + kind + ", " + what + ")", b.ofMill(kind, what), GREATEST[what]);
            }
            due.is("its kind", b.ofMill(kind, 9), kind);
        }
        for (int wrong : new int[] {-1, 10, 100, Integer.MIN_VALUE, Integer.MAX_VALUE}) {
            due.is("what " + wrong, b.ofMill(0, wrong), UNKNOWN);
        }
        for (int wrong : new int[] {-1, 3, 8, Integer.MIN_VALUE, Integer.MAX_VALUE}) {
            due.is("mill " + wrong, b.ofMill(wrong, 0), UNKNOWN);
        }
    }

    /** A NUMBER becomes v: what it was. OUTSIDE. */
    private void turnedToItsBounds() {
        for (int what = 0; what < 9; what++) {
            BallMinder b = new BallMinder();
            Texts.drawn(b, 1, LETTERS.charAt(what) + "3");
            due.is("to what it is", b.turn(0, what, 3), 3);
            due.is("to the least", b.turn(0, what, LEAST[what]), 3);
            due.is("to the greatest", b.turn(0, what, GREATEST[what]), LEAST[what]);
            for (int wrong : new int[] {LEAST[what] - 1, GREATEST[what] + 1, Integer.MIN_VALUE, Integer.MAX_VALUE}) {
                due.is("turn(0, " + what + ", " + wrong + ")", b.turn(0, what, wrong), OUTSIDE);
                due.is("it stays", b.ofMill(0, what), GREATEST[what]);
            }
            due.is("back again", b.turn(0, what, 3), GREATEST[what]);
        }
        BallMinder b = new BallMinder();
        Texts.drawn(b, 1, "w3");
        due.is("the kind can't be turned", b.turn(0, 9, 2), UNKNOWN);
        due.is("it stays", b.ofMill(0, 9), 1);
    }
}
