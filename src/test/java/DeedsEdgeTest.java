import java.util.function.ToIntFunction;

/** The edges of promises 15 to 21: redeem, pawn, week, give, undo, keep, on; and of the 40 DEEDS. */
public final class DeedsEdgeTest {
    private static final int BAD = Grid.BAD, FULL = Grid.FULL, STATE = Grid.STATE, MAX = Grid.MAX, MIN = Grid.MIN;
    private static final int NOTHING = Grid.NOTHING, RIGHT = Grid.RIGHT;
    private static final int MOST_DEEDS = 40;
    private static final Due due = new Due("DeedsEdgeTest");
    private static final Twins twins = new Twins(due);

    public static void main(String[] args) {
        redeemByOneShilling();
        redeemPaysWhatIsDue();
        redeemRefusals();
        pawnByOneShilling();
        pawnAllLoans();
        pawnManyAndNone();
        pawnRefusals();
        weekOfNoneAndOfSix();
        weekRefusals();
        giveAllSums();
        giveRefusals();
        fortyDeedsOfEachSort();
        undoEach();
        undoRefusals();
        keepNoneAndForty();
        keptStayAsTheyWere();
        keepAndOnRefusals();
        due.end();
    }

    /** Six SHOPS with 9 each, none IN PAWN. */
    private static PawnLane rich() {
        return Due.lane("s90s90s90s90s90s90");
    }

    private static int shillings(PawnLane x, int s) {
        x.shop(s, 1);
        return x.asked();
    }

    // ---- promise 15

    private static void redeemByOneShilling() {
        for (int loan = 1; loan <= 9; loan++) {
            for (int has = 0; has <= 9; has++) {
                PawnLane x = Due.lane("s" + has + "0s00t01" + loan);
                due.is("redeem of " + loan + " by " + has, x.redeem(0), has >= loan ? loan : STATE);
                due.is("it has then", shillings(x, 0), has >= loan ? has - loan : has);
                due.is("its HOLDER has then", shillings(x, 1), has >= loan ? loan : 0);
                due.is("IN PAWN then", x.count(1), has >= loan ? 0 : 1);
                due.is("DEEDS then", x.count(2), has >= loan ? 1 : 0);
            }
        }
    }

    private static void redeemPaysWhatIsDue() {
        String letters = "suhwav";
        int[] want = {12, 9, 15, 10, 6, 18};
        for (int kind = 0; kind < 6; kind++) {
            PawnLane x = Due.lane("s00" + letters.charAt(kind) + "00t019");
            x.week();
            x.week();
            x.week();
            x.give(0, want[kind] - 1);
            due.is("one too few for KIND " + kind, x.redeem(0), STATE);
            x.give(0, 1);
            due.is("just as many for KIND " + kind, x.redeem(0), want[kind]);
            due.is("none left", shillings(x, 0), 0);
            due.is("all came", shillings(x, 1), want[kind]);
            due.is("not IN PAWN any more", x.redeem(0), STATE);
        }
        PawnLane ring = Due.lane("s50s00s00 t015 t125 t205");
        due.is("0 pays 1", ring.redeem(0), 5);
        due.is("with that 1 pays 2", ring.redeem(1), 5);
        due.is("with that 2 pays 0", ring.redeem(2), 5);
        due.is("none IN PAWN", ring.count(1), 0);
        due.is("a shilling that goes round", shillings(ring, 0), 5);
    }

    private static void redeemRefusals() {
        new Grid(due, "redeem", BAD, STATE, FULL)
            .state("busy", States::busy, RIGHT).state("nearly full", States::nearlyFull, RIGHT)
            .state("full", States::full, FULL)
            .slot(Grid.right(States.CAN, 2).wrong(STATE, States.POOR, 3, States.OUT).wrong(BAD, -1, 6, MAX, MIN))
            .check((x, a) -> x.redeem(a[0]));
        new Grid(due, "redeem", BAD).state("no SHOPS", States::noShops, BAD).slot(Grid.right(-1, 0, 1, 5))
            .check((x, a) -> x.redeem(a[0]));
    }

    // ---- promise 16

    private static void pawnByOneShilling() {
        for (int loan = 1; loan <= 9; loan++) {
            for (int has = 0; has <= 9; has++) {
                PawnLane x = Due.lane("s00s" + has + "0");
                due.is("pawn by " + loan + " of " + has, x.pawn(0, 1, loan), has >= loan ? 1 : STATE);
                due.is("it has then", shillings(x, 0), has >= loan ? loan : 0);
                due.is("the other one has then", shillings(x, 1), has >= loan ? has - loan : has);
                due.is("DEEDS then", x.count(2), has >= loan ? 1 : 0);
            }
        }
    }

    private static void pawnAllLoans() {
        for (int loan = 1; loan <= 9; loan++) {
            PawnLane x = Due.lane("v00a90");
            x.pawn(0, 1, loan);
            due.told("its HOLDER", x, x.shop(0, 3), 1, 1);
            due.told("its LOAN", x, x.shop(0, 4), 1, loan);
            due.told("0 WEEKS", x, x.shop(0, 5), 1, 0);
            due.told("HELD", x, x.shop(1, 6), 1, 1);
        }
        PawnLane x = rich();
        int[] wrong = {0, -1, 10, MAX, MIN};
        for (int loan : wrong) {
            due.is("pawn by " + loan, x.pawn(0, 1, loan), BAD);
        }
        PawnLane y = rich();
        y.pawn(0, 1, 5);
        y.week();
        y.week();
        due.is("REDEEMED", y.redeem(0), 7);
        due.is("PAWNED anew", y.pawn(0, 2, 1), 1);
        due.told("0 WEEKS again", y, y.shop(0, 5), 1, 0);
        due.told("another LOAN", y, y.shop(0, 4), 1, 1);
        due.told("another HOLDER", y, y.shop(0, 3), 1, 2);
    }

    private static void pawnManyAndNone() {
        PawnLane x = rich();
        for (int s = 0; s < 6; s++) {
            due.is("so many are IN PAWN then", x.pawn(s, (s + 1) % 6, 1), s + 1);
        }
        for (int s = 0; s < 6; s++) {
            due.is("it is IN PAWN", x.pawn(s, (s + 2) % 6, 1), STATE);
        }
        PawnLane y = Due.lane("s90s00");
        due.is("all with one: its last shilling", y.pawn(1, 0, 9), 1);
        due.is("each with the other", y.pawn(0, 1, 9), 2);
    }

    private static void pawnRefusals() {
        // 5 is not IN PAWN, 0 1 2 3 4 are; they have 5 2 13 3 3
        new Grid(due, "pawn", BAD, STATE, FULL)
            .state("busy", States::busy, RIGHT).state("nearly full", States::nearlyFull, RIGHT)
            .state("full", States::full, FULL)
            .slot(Grid.right(5).wrong(STATE, 0, 3).wrong(BAD, -1, 6, MAX, MIN))
            .slot(Grid.right(2).wrong(STATE, 1).wrong(BAD, -1, 6, MAX, MIN))
            .slot(Grid.right(3, 9).wrong(BAD, 0, -1, 10, MAX, MIN))
            .check((x, a) -> x.pawn(a[0], a[1], a[2]));
        new Grid(due, "pawn", BAD, STATE, FULL).state("busy", States::busy, RIGHT).state("full", States::full, FULL)
            .slot(Grid.right(5)).slot(Grid.right(1).wrong(BAD, 5)).slot(Grid.right(1, 2).wrong(STATE, 3, 9))
            .check((x, a) -> x.pawn(a[0], a[1], a[2]));
        twins.refused("the same, IN PAWN", States::busy, x -> x.pawn(0, 0, 1), BAD);
        twins.refused("the same, full", States::full, x -> x.pawn(5, 5, 1), BAD);
        new Grid(due, "pawn", BAD).state("no SHOPS", States::noShops, BAD)
            .slot(Grid.right(-1, 0)).slot(Grid.right(1, 2)).slot(Grid.right(1)).check((x, a) -> x.pawn(a[0], a[1], a[2]));
    }

    // ---- promise 17

    private static void weekOfNoneAndOfSix() {
        PawnLane none = rich();
        for (int i = 1; i <= MOST_DEEDS; i++) {
            due.is("a WEEK of no TICKETS", none.week(), 0);
        }
        PawnLane six = Due.lane("s00u00h00w00a00v00 t015t125t235t345t455t505");
        for (int w = 1; w <= MOST_DEEDS; w++) {
            int all = 5 + (5 + 2 * w) + (5 + w / 2) + Math.max(1, 5 - w) + (5 + 3 * w) + (5 + w);
            due.is("all that is DUE in " + w + " WEEKS", six.week(), all);
            due.is("as count(4) tells", six.count(4), all);
        }
        PawnLane x = Due.lane("s90s90s90 t011");
        x.week();
        x.pawn(1, 2, 1);
        x.week();
        due.told("each TICKET is a WEEK older: the first", x, x.shop(0, 5), 1, 2);
        due.told("the second", x, x.shop(1, 5), 1, 1);
        due.told("no TICKET, no WEEKS", x, x.shop(2, 5), 1, 0);
    }

    private static void weekRefusals() {
        twins.refused("no SHOPS at all", States::fresh, PawnLane::week, STATE);
        twins.refused("no SHOPS", States::noShops, PawnLane::week, STATE);
        twins.refused("40 DEEDS", States::full, PawnLane::week, FULL);
        twins.refused("40 WEEKS", () -> done(Due.lane("s00s00t011"), PawnLane::week), PawnLane::week, FULL);
        due.is("39 DEEDS", States.nearlyFull().week() > 0 ? 1 : 0, 1);
    }

    // ---- promise 18

    private static void giveAllSums() {
        for (int v = 1; v <= 99; v++) {
            PawnLane x = Due.lane("s90s70");
            due.is("give(0, " + v + ")", x.give(0, v), 9 + v);
            due.is("it has", shillings(x, 0), 9 + v);
            due.is("the other one has", shillings(x, 1), 7);
        }
        PawnLane most = rich();
        for (int i = 1; i <= MOST_DEEDS; i++) {
            due.is("GIVEN 99 " + i + " times", most.give(5, 99), 9 + 99 * i);
        }
        due.is("all SHILLINGS", most.count(3), 6 * 9 + 99 * MOST_DEEDS);
    }

    private static void giveRefusals() {
        new Grid(due, "give", BAD, STATE, FULL)
            .state("busy", States::busy, RIGHT).state("nearly full", States::nearlyFull, RIGHT)
            .state("full", States::full, FULL)
            .slot(Grid.right(0, 5).wrong(BAD, -1, 6, MAX, MIN))
            .slot(Grid.right(1, 99).wrong(BAD, 0, -1, 100, MAX, MIN))
            .check((x, a) -> x.give(a[0], a[1]));
        new Grid(due, "give", BAD).state("no SHOPS", States::noShops, BAD).slot(Grid.right(-1, 0, 1))
            .slot(Grid.right(0, 1)).check((x, a) -> x.give(a[0], a[1]));
    }

    // ---- 40 DEEDS

    /** A call made 40 times. */
    private static PawnLane done(PawnLane x, ToIntFunction<PawnLane> call) {
        for (int i = 1; i <= MOST_DEEDS; i++) {
            int answer = call.applyAsInt(x);
            due.holds("DEED " + i + " is done, not " + answer, answer >= 0);
            due.is("DEEDS", x.count(2), i);
        }
        return x;
    }

    private static int backAndForth(PawnLane x) {
        return x.count(1) == 0 ? x.pawn(0, 1, 9) : x.redeem(0);
    }

    private static void fortyDeedsOfEachSort() {
        PawnLane x = done(rich(), DeedsEdgeTest::backAndForth);
        due.is("PAWNED and REDEEMED 20 times: a 21st", x.pawn(0, 1, 1), FULL);
        due.is("undone", x.undo(39), 1);
        due.is("IN PAWN again", x.count(1), 1);
        due.is("REDEEMED as the 40th", x.redeem(0), 9);
        due.is("undone again", x.undo(39), 1);
        due.is("LOTS of one as the 40th", x.lots(1, 1) >= 0 ? 1 : 0, 1);
        due.is("LOTS beyond", x.lots(1, 1), FULL);
        PawnLane lots = rich();
        due.is("LOTS of 20", lots.lots(20, 5) >= 0 ? 1 : 0, 1);
        due.is("and of 20", lots.lots(20, 6) >= 0 ? 1 : 0, 1);
        due.is("40 DEEDS", lots.count(2), MOST_DEEDS);
        due.is("a WEEK more", lots.week(), FULL);
        due.is("all undone", lots.undo(0), MOST_DEEDS);
        due.is("as at first", lots.digest(), rich().digest());
    }

    // ---- promise 19

    private static void undoEach() {
        for (int n = 0; n <= MOST_DEEDS; n++) {
            PawnLane x = rich();
            for (int i = 0; i < n; i++) {
                deed(x, i);
            }
            long then = x.digest();
            for (int i = n; i < MOST_DEEDS; i++) {
                deed(x, i);
            }
            due.is("undo(" + n + ") of 40", x.undo(n), MOST_DEEDS - n);
            due.is("as it was ahead of DEED " + n, x.digest(), then);
            due.is("none more to undo", x.undo(n), 0);
            due.is("beyond", x.undo(n + 1), BAD);
        }
    }

    /** A DEED of each sort in turn, with other SHOPS and sums as it goes on. */
    private static void deed(PawnLane x, int i) {
        int s = i / 4 % 6;
        int done = switch (i % 4) {
            case 0 -> x.give(s, 99 - i);
            case 1 -> x.pawn(s, (s + 1 + i / 24) % 6, 1 + i % 9);
            case 2 -> x.week();
            default -> x.redeem(s);
        };
        due.holds("DEED " + i + " is done, not " + done, done >= 0);
    }

    private static void undoRefusals() {
        new Grid(due, "undo", BAD).state("busy", States::busy, RIGHT)
            .slot(Grid.right(0, 3, States.DEEDS).wrong(BAD, -1, States.DEEDS + 1, 40, 41, MAX, MIN))
            .check((x, a) -> x.undo(a[0]));
        new Grid(due, "undo", BAD).state("full", States::full, RIGHT)
            .slot(Grid.right(0, 39, 40).wrong(BAD, -1, 41, MAX, MIN)).check((x, a) -> x.undo(a[0]));
        new Grid(due, "undo", BAD).state("just read", States::justRead, RIGHT).state("no SHOPS", States::noShops, RIGHT)
            .slot(Grid.right(0).wrong(BAD, -1, 1, 40, MAX, MIN)).check((x, a) -> x.undo(a[0]));
        twins.still("undo of none", States::busy, x -> x.undo(States.DEEDS), 0);
        twins.still("undo of none of none", States::noShops, x -> x.undo(0), 0);
    }

    // ---- promises 20, 21

    private static void keepNoneAndForty() {
        for (int k = 0; k < 3; k++) {
            PawnLane x = rich();
            due.is("kept with no DEEDS in " + k, x.keep(k), 0);
            due.is("one is kept", x.count(8), 1);
            long none = x.digest();
            for (int i = 0; i < MOST_DEEDS; i++) {
                deed(x, i);
            }
            due.is("on with none", x.on(k), 0);
            due.is("as it was kept", x.digest(), none);
            due.is("it is kept still", x.count(8), 1);
            due.is("STOCK may be set", x.stock(0, 5), 0);
            for (int i = 0; i < MOST_DEEDS; i++) {
                deed(x, i);
            }
            due.is("kept with 40 DEEDS in " + k, x.keep(k), MOST_DEEDS);
            due.is("one is kept, not two", x.count(8), 1);
            long all = x.digest();
            due.is("all undone", x.undo(0), MOST_DEEDS);
            due.is("on with 40", x.on(k), MOST_DEEDS);
            due.is("as it was kept", x.digest(), all);
            due.is("and FULL", x.week(), FULL);
            due.is("its 40 DEEDS can be undone", x.undo(0), MOST_DEEDS);
            due.told("STOCK as it was kept", x, x.shop(0, 2), 1, 5);
        }
    }

    private static void keptStayAsTheyWere() {
        PawnLane x = rich();
        x.keep(0);
        x.pawn(0, 1, 9);
        x.keep(1);
        x.week();
        x.keep(2);
        due.is("three are kept", x.count(8), 3);
        due.is("on(1)", x.on(1), 1);
        x.give(3, 50);
        x.give(4, 60);
        due.is("on(2): what was done since is not in it", x.on(2), 2);
        due.is("all SHILLINGS", x.count(3), 54);
        due.told("a WEEK old", x, x.shop(0, 5), 1, 1);
        due.is("on(0)", x.on(0), 0);
        due.is("none IN PAWN", x.count(1), 0);
        due.is("on(1) again", x.on(1), 1);
        due.told("0 WEEKS", x, x.shop(0, 5), 1, 0);
        due.is("undo(0)", x.undo(0), 1);
        due.is("on(1) is kept still", x.on(1), 1);
        due.is("keep(0) of another one's DEEDS", x.keep(0), 1);
        due.is("three are kept still", x.count(8), 3);
        keptDeedsAreItsOwn();
        twins.still("keep of what is kept", () -> keptNow(States.busy()), y -> y.keep(1), States.DEEDS);
        twins.still("on of what is now", () -> keptNow(States.busy()), y -> y.on(1), States.DEEDS);
    }

    private static void keptDeedsAreItsOwn() {
        PawnLane x = rich();
        long first = x.digest();
        x.pawn(0, 1, 9);
        x.week();
        x.keep(0);
        x.undo(0);
        x.give(2, 50);
        x.give(3, 60);
        x.keep(2);
        due.is("on(0)", x.on(0), 2);
        due.is("its own DEEDS are undone", x.undo(0), 2);
        due.is("all SHILLINGS as at first", x.count(3), 54);
        due.is("none IN PAWN as at first", x.count(1), 0);
        due.is("on(2)", x.on(2), 2);
        due.is("its own DEEDS are undone, too", x.undo(1), 1);
        due.is("all SHILLINGS with the first gift", x.count(3), 104);
        due.is("the first gift undone", x.undo(0), 1);
        due.is("all SHILLINGS as at first again", x.count(3), 54);
        x.lane(3);
        due.is("as at first", x.digest(), first);
    }

    private static PawnLane keptNow(PawnLane x) {
        x.keep(1);
        return x;
    }

    private static void keepAndOnRefusals() {
        new Grid(due, "keep", BAD, STATE)
            .state("busy", States::busy, RIGHT).state("full", States::full, RIGHT)
            .state("no SHOPS", States::noShops, STATE).state("new", States::fresh, STATE)
            .slot(Grid.right(0, 1, 2).wrong(BAD, -1, 3, MAX, MIN)).check((x, a) -> x.keep(a[0]));
        new Grid(due, "on", BAD, NOTHING)
            .state("busy", States::busy, RIGHT).state("full", States::full, RIGHT)
            .slot(Grid.right(0, 2).wrong(NOTHING, States.MISSING_KEPT).wrong(BAD, -1, 3, MAX, MIN))
            .check((x, a) -> x.on(a[0]));
        new Grid(due, "on", BAD, NOTHING)
            .state("just read", States::justRead, NOTHING).state("no SHOPS", States::noShops, NOTHING)
            .state("new", States::fresh, NOTHING)
            .slot(Grid.right(0, 1, 2).wrong(BAD, -1, 3, MAX, MIN)).check((x, a) -> x.on(a[0]));
    }
}
