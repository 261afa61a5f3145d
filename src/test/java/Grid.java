import java.util.ArrayList;
import java.util.List;
import java.util.function.Supplier;
import java.util.function.ToIntBiFunction;

/**
 * Each refusal of a call, alone and beside each other one: every argument (and the state ahead of the call) has
 * values that are right and values that are refused; of all that are laid together the first in the order is due.
 */
final class Grid {
    static final int RIGHT = 0;
    static final int BAD = PawnLane.BAD, FULL = PawnLane.FULL, STATE = PawnLane.STATE;
    static final int NOTHING = 1, BEYOND = 2, UNLIKE = 3, NOUGHT = 4, SIZE = 5;
    static final int MAX = Integer.MAX_VALUE, MIN = Integer.MIN_VALUE;

    /** The values of one argument, each with the refusal that it brings. */
    static final class Slot {
        private final List<int[]> values = new ArrayList<>();

        Slot right(int... right) {
            return wrong(RIGHT, right);
        }

        Slot wrong(int refusal, int... wrong) {
            for (int v : wrong) {
                values.add(new int[] {v, refusal});
            }
            return this;
        }
    }

    private record State(String name, Supplier<PawnLane> made, int refusal) {
    }

    private final Due due;
    private final Twins twins;
    private final String call;
    private final int[] order;
    private final List<State> states = new ArrayList<>();
    private final List<Slot> slots = new ArrayList<>();
    private ToIntBiFunction<PawnLane, int[]> made;

    /** The order in which the refusals of the call come. */
    Grid(Due due, String call, int... order) {
        this.due = due;
        this.twins = new Twins(due);
        this.call = call;
        this.order = order;
    }

    Grid state(String name, Supplier<PawnLane> made, int refusal) {
        states.add(new State(name, made, refusal));
        return this;
    }

    Grid slot(Slot slot) {
        slots.add(slot);
        return this;
    }

    static Slot right(int... right) {
        return new Slot().right(right);
    }

    static Slot rows() {
        return right(0, 5).wrong(BAD, -1, 6, MAX, MIN);
    }

    void check(ToIntBiFunction<PawnLane, int[]> made) {
        this.made = made;
        for (State s : states) {
            fill(s, new int[slots.size()], new int[slots.size() + 1], 0);
        }
    }

    private void fill(State state, int[] args, int[] refusals, int i) {
        refusals[args.length] = state.refusal;
        if (i == args.length) {
            cell(state, args.clone(), first(refusals));
            return;
        }
        for (int[] v : slots.get(i).values) {
            args[i] = v[0];
            refusals[i] = v[1];
            fill(state, args, refusals, i + 1);
        }
    }

    private int first(int[] refusals) {
        for (int refusal : order) {
            for (int r : refusals) {
                if (r == refusal) {
                    return refusal;
                }
            }
        }
        for (int r : refusals) {
            if (r != RIGHT) {
                throw new IllegalStateException(call + ": " + r + " is not in the order");
            }
        }
        return RIGHT;
    }

    private void cell(State state, int[] args, int refusal) {
        StringBuilder what = new StringBuilder(state.name).append(": ").append(call).append('(');
        for (int i = 0; i < args.length; i++) {
            what.append(i == 0 ? "" : ", ").append(args[i]);
        }
        what.append(')');
        if (refusal != RIGHT) {
            twins.refused(what.toString(), state.made, x -> made.applyAsInt(x, args), refusal);
            return;
        }
        PawnLane x = state.made.get();
        int findings = x.finding();
        int answer = made.applyAsInt(x, args);
        due.holds(what + " is not refused, but answered " + answer, answer >= 0 || answer == PawnLane.NONE);
        due.is(what + ": no FINDING", x.finding(), findings);
    }
}
