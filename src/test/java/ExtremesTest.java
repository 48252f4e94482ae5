import java.util.Arrays;

/**
 * Every call with all mixtures of numbers at, just beyond and far beyond the bounds that the document tells, against
 * Plainly; and that an object answers rightly through all of its 512 calls.
 */
public final class ExtremesTest {
    private static final String[] CALLS = {"mill", "ofMill", "turn", "row", "margin", "near", "line", "better", "off",
        "years", "far", "after", "reach", "two", "share", "best", "watch", "fits", "sheet", "lose", "put", "cell",
        "copy", "tell", "ring", "as", "trace", "fault", "many"};
    private static final int[] MANY = {Integer.MIN_VALUE, Integer.MIN_VALUE + 1, -65536, -129, -128, -101, -100, -99,
        -10, -9, -8, -2, -1, 0, 1, 2, 3, 4, 5, 6, 7, 8, 9, 10, 19, 20, 21, 49, 50, 51, 59, 60, 61, 98, 99, 100, 101,
        127, 128, 199, 200, 201, 255, 256, 299, 300, 301, 998, 999, 1000, 32767, 32768, 65536, Integer.MAX_VALUE - 1,
        Integer.MAX_VALUE};
    private static final int[] SOME = {Integer.MIN_VALUE, -1, 0, 1, 2, 3, 5, 6, 50, 100, 101, 999, 1000,
        Integer.MAX_VALUE};
    private static final int[] FEW = {Integer.MIN_VALUE, -1, 0, 1, 2, 5, 100, Integer.MAX_VALUE};
    private static final int[] FEWEST = {Integer.MIN_VALUE, -1, 0, 2, 100, Integer.MAX_VALUE};
    /** So that a world and all that is asked of it stay within the 512 calls of an object. */
    private static final int AT_ONCE = 200;

    private final Due due = new Due();
    private Object b;
    private Object p;
    private int asked;

    public static void main(String[] args) {
        ExtremesTest test = new ExtremesTest();
        for (String name : CALLS) {
            test.anew();
            test.mix(name, new int[Calls.numbersOf(name)], 0);
        }
        test.allCallsOfAnObject();
        test.due.end();
    }

    private void anew() {
        b = World.made(new BallMinder());
        p = World.made(new Plainly());
        asked = 0;
    }

    private static int[] choices(int numbers) {
        if (numbers <= 2) {
            return MANY;
        }
        if (numbers <= 4) {
            return SOME;
        }
        return numbers == 5 ? FEW : FEWEST;
    }

    private void mix(String name, int[] numbers, int place) {
        if (place == numbers.length) {
            check(name, numbers);
            return;
        }
        for (int number : choices(numbers.length)) {
            numbers[place] = number;
            mix(name, numbers, place + 1);
        }
    }

    private void check(String name, int[] numbers) {
        if (asked >= AT_ONCE) {
            due.holds("all is alike behind " + name, Arrays.equals(World.look(b), World.look(p)));
            anew();
        }
        asked++;
        due.is(Calls.told(name, numbers), Calls.ask(b, name, numbers), Calls.ask(p, name, numbers));
    }

    /** An object is used for at most 512 calls after it has been made. */
    private void allCallsOfAnObject() {
        BallMinder all = new BallMinder();
        Texts.lay(all, 0, 0, Texts.codes("w5"));
        due.is("call 4", all.mill(0, 0, 0, 0, 2), 0);
        int trace = 0;
        int calls = 4;
        while (calls < 508) {
            due.is("call " + (calls + 1), all.tell(0), 5);
            trace = 31 * trace + 1;
            due.is("call " + (calls + 2), all.trace(), trace);
            calls += 2;
        }
        due.is("call 509", all.mill(2, 0, 0, 0, 2), 1);
        due.is("call 510", all.tell(1), 110);
        due.is("call 511", all.mill(2, 0, 0, 0, 3), -13);
        due.is("call 512", all.fault(), 3);
    }
}
