import java.util.ArrayList;
import java.util.List;

/** What a call may be given at one of its places, or at some side by side: right numbers, and wrong ones. */
final class Part {
    /** Right numbers stand below all rungs. */
    static final int RIGHT = 99;

    /** Numbers side by side; the rung of the call's line that refuses them, and what is due, if nothing ahead is. */
    record Choice(int rung, long answer, int fault, int[] numbers) {
    }

    private final List<Choice> choices = new ArrayList<>();

    List<Choice> choices() {
        return choices;
    }

    Part right(int... sideBySide) {
        choices.add(new Choice(RIGHT, 0, 0, sideBySide));
        return this;
    }

    Part wrong(int rung, long answer, int... sideBySide) {
        choices.add(new Choice(rung, answer, faultOf(answer), sideBySide));
        return this;
    }

    /** Where a long is answered, a fault is LOST as refusals are. */
    Part lost(int rung, int fault, int... sideBySide) {
        choices.add(new Choice(rung, BallMinder.LOST, fault, sideBySide));
        return this;
    }

    Part eachRight(int... numbers) {
        for (int number : numbers) {
            right(number);
        }
        return this;
    }

    Part eachWrong(int rung, long answer, int... numbers) {
        for (int number : numbers) {
            wrong(rung, answer, number);
        }
        return this;
    }

    private static int faultOf(long answer) {
        return answer <= -11 && answer >= -14 ? (int) (-10 - answer) : 0;
    }
}
