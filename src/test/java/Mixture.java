import java.util.Arrays;
import java.util.Set;
import java.util.function.UnaryOperator;

/**
 * Asks a call with every mixture of right and wrong numbers, each on a new object: of several refusals and faults the
 * one on the least rung (the first that the call's line tells) is due, and nothing but fault() may have changed.
 */
final class Mixture {
    /** Right numbers stand below all rungs. */
    private static final int RIGHT = 99;
    private static final Set<String> NAMING_FAULTS = Set.of("mill", "watch", "sheet", "put", "cell", "copy", "as");
    private static final Set<String> CHANGING =
        Set.of("mill", "turn", "watch", "sheet", "lose", "put", "copy", "tell", "ring");

    private final Due due;
    private final UnaryOperator<Object> world;
    private final long[] before;

    /** Some numbers of a call, side by side, and what is due for them, if nothing ahead of it is. */
    record Choice(int rung, long answer, int fault, int[] numbers) {
    }

    Mixture(Due due, UnaryOperator<Object> world) {
        this.due = due;
        this.world = world;
        before = World.look(world.apply(new BallMinder()));
    }

    static Choice[] of(Choice... choices) {
        return choices;
    }

    static Choice right(int... numbers) {
        return new Choice(RIGHT, 0, 0, numbers);
    }

    /** An answer of -11 .. -14 is that of a fault. */
    static Choice wrong(int rung, long answer, int... numbers) {
        boolean faulted = answer <= -11 && answer >= -14;
        return new Choice(rung, answer, faulted ? (int) (-10 - answer) : 0, numbers);
    }

    static Choice lost(int rung, int fault, int... numbers) {
        return new Choice(rung, BallMinder.LOST, fault, numbers);
    }

    /** Each of some single numbers, all wrong alike. */
    static Choice[] with(Choice[] some, int rung, long answer, int... each) {
        Choice[] all = Arrays.copyOf(some, some.length + each.length);
        for (int k = 0; k < each.length; k++) {
            all[some.length + k] = wrong(rung, answer, each[k]);
        }
        return all;
    }

    static Choice[] rights(int... each) {
        Choice[] all = new Choice[each.length];
        for (int k = 0; k < each.length; k++) {
            all[k] = right(each[k]);
        }
        return all;
    }

    /** Of right mixtures the answer of a Plainly is due. */
    void ask(String name, Choice[]... parts) {
        mix(name, parts, 0, new int[0], null, null);
    }

    /** Right mixtures are refused, too: for the state that the world is in. */
    void askRefused(String name, long byState, Choice[]... parts) {
        mix(name, parts, 0, new int[0], null, wrong(RIGHT - 1, byState));
    }

    private void mix(String name, Choice[][] parts, int part, int[] numbers, Choice first, Choice byState) {
        if (part == parts.length) {
            check(name, numbers, first != null && first.rung < RIGHT ? first : byState);
            return;
        }
        for (Choice one : parts[part]) {
            int[] more = Arrays.copyOf(numbers, numbers.length + one.numbers.length);
            System.arraycopy(one.numbers, 0, more, numbers.length, one.numbers.length);
            mix(name, parts, part + 1, more, first == null || one.rung < first.rung ? one : first, byState);
        }
    }

    private void check(String name, int[] numbers, Choice refused) {
        Object b = world.apply(new BallMinder());
        String call = Calls.told(name, numbers);
        long answer = Calls.ask(b, name, numbers);
        long want = refused == null ? Calls.ask(world.apply(new Plainly()), name, numbers) : refused.answer;
        due.is(call, answer, want);
        int fault = refused == null ? 0 : refused.fault;
        due.is("fault() behind " + call, Calls.ask(b, "fault"), NAMING_FAULTS.contains(name) ? fault : World.FAULT);
        if (refused != null || !CHANGING.contains(name)) {
            due.holds(call + " changes nothing", Arrays.equals(World.look(b), before));
        }
    }
}
