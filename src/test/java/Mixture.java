import java.util.Arrays;
import java.util.Set;
import java.util.function.UnaryOperator;

/**
 * Asks a call with every mixture of right and wrong numbers, each on a new object: of several refusals and faults the
 * one on the least rung (the first that the call's line tells) is due, and nothing but fault() may have changed.
 */
final class Mixture {
    private static final Set<String> NAMING_FAULTS = Set.of("mill", "watch", "sheet", "put", "cell", "copy", "as");
    private static final Set<String> CHANGING =
        Set.of("mill", "turn", "watch", "sheet", "lose", "put", "copy", "tell", "ring");

    private final Due due;
    private final UnaryOperator<Object> world;
    private final long[] before;

    Mixture(Due due, UnaryOperator<Object> world) {
        this.due = due;
        this.world = world;
        before = World.look(world.apply(new BallMinder()));
    }

    /** Of right mixtures the answer of a Plainly is due. */
    void ask(String name, Part... parts) {
        mix(name, parts, 0, new int[0], null);
    }

    /** Right mixtures are refused, too: for the state that the world is in. */
    void askRefused(String name, long byState, Part... parts) {
        mix(name, parts, 0, new int[0], new Part.Choice(Part.RIGHT, byState, 0, new int[0]));
    }

    private void mix(String name, Part[] parts, int part, int[] numbers, Part.Choice first) {
        if (part == parts.length) {
            check(name, numbers, first);
            return;
        }
        for (Part.Choice one : parts[part].choices()) {
            int[] more = Arrays.copyOf(numbers, numbers.length + one.numbers().length);
            System.arraycopy(one.numbers(), 0, more, numbers.length, one.numbers().length);
            mix(name, parts, part + 1, more, firstOf(first, one));
        }
    }

    private static Part.Choice firstOf(Part.Choice first, Part.Choice one) {
        int rung = first == null ? Part.RIGHT : first.rung();
        return one.rung() < rung ? one : first;
    }

    private void check(String name, int[] numbers, Part.Choice refused) {
        Object b = world.apply(new BallMinder());
        String call = Calls.told(name, numbers);
        long answer = Calls.ask(b, name, numbers);
        long want = refused == null ? Calls.ask(world.apply(new Plainly()), name, numbers) : refused.answer();
        due.is(call, answer, want);
        int fault = refused == null ? 0 : refused.fault();
        due.is("fault() behind " + call, Calls.ask(b, "fault"), NAMING_FAULTS.contains(name) ? fault : World.FAULT);
        if (refused != null || !CHANGING.contains(name)) {
            due.holds(call + " changes nothing", Arrays.equals(World.look(b), before));
        }
    }
}
