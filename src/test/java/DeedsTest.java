/** Promises 15 to 21: redeem, pawn, week, give, undo, keep, on. */
public final class DeedsTest {
    private static final int NONE = PawnLane.NONE;
    private static final Due due = new Due("DeedsTest");

    public static void main(String[] args) {
        redeem();
        pawn();
        week();
        give();
        full();
        undo();
        keepAndOn();
        withoutShops();
        due.end();
    }

    private static void redeem() {
        PawnLane x = Due.lane("s50h20t014");
        due.is("redeem(0)", x.redeem(0), 4);
        due.told("it paid", x, x.shop(0, 1), 1, 1);
        due.told("the other one has it", x, x.shop(1, 1), 1, 6);
        due.told("IN PAWN no more", x, x.shop(0, 3), 1, NONE);
        due.is("redeem(0) again", x.redeem(0), -4);
        due.is("redeem(1)", x.redeem(1), -4);
        due.is("redeem(2)", x.redeem(2), -1);
        due.is("redeem(-1)", x.redeem(-1), -1);
        due.is("DEEDS", x.count(2), 1);
        PawnLane y = Due.lane("s50h20t014");
        y.week();
        due.is("fewer SHILLINGS than DUE", y.redeem(0), -4);
        y.give(0, 1);
        due.is("just as many", y.redeem(0), 6);
    }

    private static void pawn() {
        PawnLane x = Due.lane("s50h20w90");
        due.is("pawn(0, 1, 2)", x.pawn(0, 1, 2), 1);
        due.told("LOAN came", x, x.shop(0, 1), 1, 7);
        due.told("LOAN went", x, x.shop(1, 1), 1, 0);
        due.is("pawn(1, 2, 9)", x.pawn(1, 2, 9), 2);
        due.is("the other one has fewer", x.pawn(2, 0, 8), -4);
        due.is("pawn(2, 0, 7): a ring", x.pawn(2, 0, 7), 3);
        due.is("IN PAWN already", x.pawn(2, 1, 1), -4);
        due.is("the same", x.pawn(0, 0, 1), -1);
        due.is("pawn(0, 1, 0)", x.pawn(0, 1, 0), -1);
        due.is("pawn(0, 1, 10)", x.pawn(0, 1, 10), -1);
        due.is("pawn(3, 1, 1)", x.pawn(3, 1, 1), -1);
        due.is("pawn(0, 3, 1)", x.pawn(0, 3, 1), -1);
        due.is("pawn(-1, 1, 1)", x.pawn(-1, 1, 1), -1);
        due.is("pawn(0, -1, 1)", x.pawn(0, -1, 1), -1);
        x.week();
        x.give(0, 9);
        due.is("redeemed", x.redeem(0), 4);
        due.is("pawned anew", x.pawn(0, 1, 1), 3);
        due.told("0 WEEKS", x, x.shop(0, 5), 1, 0);
        due.told("older ones", x, x.shop(1, 5), 1, 1);
    }

    private static void week() {
        PawnLane x = Due.lane("s00u00h00w00a00v00 t011t121t231t349t451t501");
        due.is("DUE of all now", x.count(4), 14);
        due.is("week()", x.week(), 1 + 3 + 1 + 8 + 4 + 2);
        due.is("week() again", x.week(), 1 + 5 + 2 + 7 + 7 + 3);
        due.is("DEEDS", x.count(2), 2);
        PawnLane y = Due.lane("s00u00");
        due.is("week() of none", y.week(), 0);
    }

    private static void give() {
        PawnLane x = Due.lane("s90u00");
        due.is("give(0, 99)", x.give(0, 99), 108);
        due.is("give(1, 1)", x.give(1, 1), 1);
        due.is("give(1, 0)", x.give(1, 0), -1);
        due.is("give(1, 100)", x.give(1, 100), -1);
        due.is("give(1, -5)", x.give(1, -5), -1);
        due.is("give(1, MAX)", x.give(1, Integer.MAX_VALUE), -1);
        due.is("give(2, 1)", x.give(2, 1), -1);
        due.is("give(-1, 1)", x.give(-1, 1), -1);
    }

    private static void full() {
        PawnLane x = Due.lane("s90u90s00 t011");
        for (int i = 1; i <= 40; i++) {
            due.is("give " + i, x.give(0, 1), 9 + i);
        }
        due.is("redeem: FULL", x.redeem(0), -2);
        due.is("pawn: FULL", x.pawn(1, 0, 1), -2);
        due.is("week: FULL", x.week(), -2);
        due.is("give: FULL", x.give(0, 1), -2);
        due.is("redeem: STATE first", x.redeem(1), -4);
        due.is("pawn: STATE first", x.pawn(0, 1, 1), -4);
        due.is("pawn: STATE first, too few", x.pawn(1, 2, 1), -4);
        due.is("give: BAD first", x.give(0, 0), -1);
        due.is("lots: FULL", x.lots(1, 1), -2);
        due.is("40 DEEDS", x.count(2), 40);
        due.is("undo(39)", x.undo(39), 1);
        due.is("room for one", x.week(), 1);
        due.is("and no more", x.week(), -2);
        x.undo(39);
        due.is("room for a PAWNED one", x.pawn(1, 0, 1), 2);
        x.undo(39);
        due.is("room for a REDEEMED one", x.redeem(0), 1);
        x.undo(39);
        due.is("room for a GIVEN one", x.give(0, 1), 49);
    }

    private static void undo() {
        PawnLane x = Due.lane("s90h90w90v00 t013 t102");
        x.week();
        long[] states = new long[8];
        x.undo(0);
        states[0] = x.digest();
        due.is("0: redeem", x.redeem(0), 3);
        states[1] = x.digest();
        due.is("1: week", x.week(), 3);
        states[2] = x.digest();
        due.is("2: pawn", x.pawn(0, 2, 9), 2);
        states[3] = x.digest();
        due.is("3: week", x.week(), 13);
        states[4] = x.digest();
        due.is("4: give", x.give(3, 50), 50);
        states[5] = x.digest();
        due.is("5: redeem an older one", x.redeem(1), 4);
        states[6] = x.digest();
        due.is("undo(7)", x.undo(7), -1);
        due.is("undo(-1)", x.undo(-1), -1);
        due.is("undo(6): none", x.undo(6), 0);
        due.is("as it was", x.digest(), states[6]);
        for (int n = 5; n >= 0; n--) {
            due.is("undo(" + n + ")", x.undo(n), 1);
            due.is("as it was ahead of " + n, x.digest(), states[n]);
        }
        x.lots(20, 99);
        due.is("undo(0) of LOTS", x.undo(0), 20);
        due.is("as it was at first", x.digest(), states[0]);
    }

    private static void keepAndOn() {
        PawnLane x = Due.lane("s90h90w90 t013");
        due.finds("on(0)", x, x.on(0), 1);
        x.redeem(0);
        x.week();
        due.is("keep(0)", x.keep(0), 2);
        due.is("keep(2)", x.keep(2), 2);
        due.is("count(8)", x.count(8), 2);
        long then = x.digest();
        x.give(0, 9);
        x.pawn(0, 1, 9);
        due.is("on(0)", x.on(0), 2);
        due.is("as it was", x.digest(), then);
        due.is("its DEEDS can be undone", x.undo(0), 2);
        due.told("IN PAWN again", x, x.shop(0, 3), 1, 1);
        due.is("on(2)", x.on(2), 2);
        due.is("as it was, again", x.digest(), then);
        x.give(1, 1);
        due.is("keep(2) anew", x.keep(2), 3);
        x.undo(0);
        due.is("on(2) anew", x.on(2), 3);
        due.is("on(0) still", x.on(0), 2);
        long still = x.digest();
        x.undo(0);
        x.give(2, 7);
        x.give(2, 8);
        due.is("on(0) with other DEEDS since", x.on(0), 2);
        due.is("undo(1) of the kept ones", x.undo(1), 1);
        x.week();
        due.is("as it was", x.digest(), still);
        due.finds("on(1)", x, x.on(1), 1);
        int[] bad = {-1, 3, Integer.MAX_VALUE, Integer.MIN_VALUE};
        for (int k : bad) {
            due.is("keep(" + k + ")", x.keep(k), -1);
            due.is("on(" + k + ")", x.on(k), -1);
        }
    }

    private static void withoutShops() {
        PawnLane x = new PawnLane();
        due.is("redeem", x.redeem(0), -1);
        due.is("pawn", x.pawn(0, 1, 1), -1);
        due.is("week", x.week(), -4);
        due.is("give", x.give(0, 1), -1);
        due.is("undo(0)", x.undo(0), 0);
        due.is("undo(1)", x.undo(1), -1);
        due.is("keep", x.keep(0), -4);
        due.finds("on", x, x.on(0), 1);
    }
}
