import java.util.ArrayList;
import java.util.List;
import java.util.function.Supplier;
import java.util.function.ToIntFunction;

/** Holds an object on which a call was made against a twin on which it was not: what else has changed? */
final class Twins {
    private static final int FINDINGS = 5;

    private final Due due;

    Twins(Due due) {
        this.due = due;
    }

    /** Refused by BAD, FULL, STATE (below 0), or by a FINDING (1 .. 5): nothing but finding(), findings() changes. */
    void refused(String what, Supplier<PawnLane> state, ToIntFunction<PawnLane> call, int refusal) {
        PawnLane with = state.get();
        PawnLane without = state.get();
        due.is(what, call.applyAsInt(with), refusal > 0 ? PawnLane.FINDING : refusal);
        due.is(what + ": finding()", with.finding(), refusal > 0 ? refusal : without.finding());
        for (int f = 1; f <= FINDINGS; f++) {
            due.is(what + ": findings(" + f + ")", with.findings(f), without.findings(f) + (f == refusal ? 1 : 0));
        }
        sameAsked(what, with, without);
        sameChance(what, with, without);
        sameLanes(what, with, without);
    }

    /** Answered, and nothing at all has changed. */
    void still(String what, Supplier<PawnLane> state, ToIntFunction<PawnLane> call, int answer) {
        PawnLane with = state.get();
        PawnLane without = state.get();
        due.is(what, call.applyAsInt(with), answer);
        sameFindings(what, with, without);
        sameAsked(what, with, without);
        sameChance(what, with, without);
        sameLanes(what, with, without);
    }

    /** Answered, and nothing but asked() has changed. */
    void asks(String what, Supplier<PawnLane> state, ToIntFunction<PawnLane> call, int answer, int asked) {
        PawnLane with = state.get();
        PawnLane without = state.get();
        due.is(what, call.applyAsInt(with), answer);
        due.is(what + ": asked()", with.asked(), asked);
        sameFindings(what, with, without);
        sameChance(what, with, without);
        sameLanes(what, with, without);
    }

    /** Answered by 1, and nothing but upper(), lower() has changed. */
    void chance(String what, Supplier<PawnLane> state, ToIntFunction<PawnLane> call, long upper, long lower) {
        PawnLane with = state.get();
        PawnLane without = state.get();
        due.is(what, call.applyAsInt(with), 1);
        due.is(what + ": upper()", with.upper(), upper);
        due.is(what + ": lower()", with.lower(), lower);
        sameFindings(what, with, without);
        sameAsked(what, with, without);
        sameLanes(what, with, without);
    }

    /** Answered, and nothing but a ROW has changed. */
    void rowOnly(String what, Supplier<PawnLane> state, ToIntFunction<PawnLane> call, int answer, int r) {
        PawnLane with = state.get();
        PawnLane without = state.get();
        due.is(what, call.applyAsInt(with), answer);
        sameFindings(what, with, without);
        sameAsked(what, with, without);
        sameChance(what, with, without);
        with.tear(r);
        without.tear(r);
        sameLanes(what, with, without);
    }

    private void sameFindings(String what, PawnLane with, PawnLane without) {
        due.is(what + ": finding() stays", with.finding(), without.finding());
        for (int f = 1; f <= FINDINGS; f++) {
            due.is(what + ": findings(" + f + ") stay", with.findings(f), without.findings(f));
        }
    }

    private void sameAsked(String what, PawnLane with, PawnLane without) {
        due.is(what + ": asked() stays", with.asked(), without.asked());
    }

    private void sameChance(String what, PawnLane with, PawnLane without) {
        due.is(what + ": upper() stays", with.upper(), without.upper());
        due.is(what + ": lower() stays", with.lower(), without.lower());
    }

    private void sameLanes(String what, PawnLane with, PawnLane without) {
        due.holds(what + ": all else stays", lanesOf(with).equals(lanesOf(without)));
    }

    /** ROWS, TEXTS, SHOPS, and each DEED undone in turn, of this LANE and of the kept ones: the objects are spent then. */
    private static List<Long> lanesOf(PawnLane x) {
        List<Long> all = new ArrayList<>();
        undoAll(x, all);
        for (int k = 0; k < 3; k++) {
            all.add((long) x.on(k));
            undoAll(x, all);
        }
        return all;
    }

    private static void undoAll(PawnLane x, List<Long> all) {
        all.add(x.digest());
        for (int n = x.count(2) - 1; n >= 0; n--) {
            all.add((long) x.undo(n));
            all.add(x.digest());
        }
    }
}
