/** Promises 37 to 41: shuts, missing, through, odds, lots. */
public final class ShuttingTest {
    private static final Due due = new Due("ShuttingTest");

    public static void main(String[] args) {
        shuts();
        missing();
        through();
        odds();
        lots();
        due.end();
    }

    private static void shuts() {
        // 1 in 0, 2 in 1: who is IN PAWN shuts with its HOLDER
        PawnLane x = Due.lane("s90s90s90s90 t101 t211");
        due.is("those inside", x.shuts(0), 6);
        due.is("a HOLDER with enough stays", x.shuts(2), 0);
        due.is("the middle one", x.shuts(1), 4);
        due.is("one alone", x.shuts(3), 0);
        // the HOLDER 0 has 3, DUE is 4
        PawnLane y = Due.lane("s30s00s00 t104 t201");
        due.is("a HOLDER with fewer shuts, and whom it HOLDS", y.shuts(1), 5);
        due.is("a HOLDER with more stays", y.shuts(2), 0);
        y.give(0, 1);
        due.is("just as many: it stays", y.shuts(1), 0);
        y.week();
        due.is("more DUE in a WEEK", y.shuts(1), 5);
        // each alone, not together: 2 and 2 of 3
        PawnLane z = Due.lane("s90s30s00s00 t212 t312 t013");
        due.is("each alone", z.shuts(0), 0);
        PawnLane w = Due.lane("s00s00s00s00s00s00 t011t121t231t341t451");
        due.is("down the whole lane", w.shuts(0), 62);
        due.is("and up", w.shuts(5), 31);
        int[] bad = {-1, 6, Integer.MAX_VALUE, Integer.MIN_VALUE};
        for (int s : bad) {
            due.is("shuts(" + s + ")", w.shuts(s), -1);
        }
        due.is("no SHOPS", new PawnLane().shuts(0), -1);
    }

    private static int missingOf(PawnLane x, int... sets) {
        Due.lay(x, 0, sets);
        return x.missing(0);
    }

    private static void missing() {
        // 2 then 1 then 0; 3 is not IN PAWN
        PawnLane x = Due.lane("s00s00s50s00 t035 t105 t215");
        due.is("the whole ORDER", missingOf(x, 4, 6, 7), 1);
        due.is("a part", missingOf(x, 4), 1);
        due.is("one that can't be", missingOf(x, 1), 0);
        due.is("another that can't be", missingOf(x, 4, 5), 0);
        due.is("the first with two", missingOf(x, 6, 7), 0);
        due.is("two more", missingOf(x, 4, 7), 0);
        due.is("the same again", missingOf(x, 4, 4), 0);
        due.is("one less", missingOf(x, 4, 6, 4), 0);
        due.is("another one", missingOf(x, 4, 2), 0);
        due.is("the first with none", missingOf(x, 0), 0);
        due.is("one that is not IN PAWN", missingOf(x, 8), 0);
        due.is("one that is not IN PAWN, behind", missingOf(x, 4, 12), 0);
        due.finds("no set", x, missingOf(x, 16), 3);
        due.finds("no set behind one that can't be", x, missingOf(x, 1, -1), 3);
        due.finds("of none", x, missingOf(x), 5);
        due.finds("SIZE ahead of UNLIKE", x, missingOf(x, 99, 99, 99, 99, 99, 99, 99), 5);
        due.finds("missing(1)", x, x.missing(1), 1);
        due.is("missing(6)", x.missing(6), -1);
        due.is("missing(-1)", x.missing(-1), -1);
        PawnLane six = Due.lane("s90s90s90s90s90s90 t011t121t231t341t451t501");
        due.is("six sets", missingOf(six, 32, 33, 41, 43, 59, 63), 1);
        PawnLane none = new PawnLane();
        due.is("STATE ahead of NOTHING", none.missing(0), -4);
        due.is("BAD ahead of STATE", none.missing(6), -1);
    }

    private static void through() {
        PawnLane x = Due.lane("s90s90s90s90s90s90 t011t121t231t341t451t501");
        due.chance("at the beginning", x, x.through(0), 720, 1);
        due.chance("at the end", x, x.through(63), 720, 1);
        due.chance("of one", x, x.through(4), 120, 1);
        due.chance("of three", x, x.through(37), 36, 1);
        due.is("through(64)", x.through(64), -1);
        due.is("through(-1)", x.through(-1), -1);
        due.is("through(MIN)", x.through(Integer.MIN_VALUE), -1);
        PawnLane y = Due.lane("s00s00s50s00 t035 t105 t215");
        due.chance("on the way", y, y.through(6), 1, 1);
        due.chance("not on the way", y, y.through(5), 0, 1);
        due.is("a set of others", y.through(8), -1);
        due.is("a set of others, too", y.through(12), -1);
        due.is("upper() stays", y.upper(), 0);
        PawnLane none = new PawnLane();
        due.chance("no SHOPS", none, none.through(0), 1, 1);
        due.is("no SHOPS: through(1)", none.through(1), -1);
    }

    private static void odds() {
        PawnLane x = Due.lane("s00s00s50s00 t035 t105 t215");
        // what is left must be none, 2, 2 1 or 2 1 0
        due.chance("odds(0)", x, x.odds(0), 1, 1);
        due.chance("odds(6)", x, x.odds(6), 1, 2);
        due.chance("odds(4): 1 + 2 + 4 + 8 of 27", x, x.odds(4), 5, 9);
        due.chance("odds(12)", x, x.odds(12), 1, 1);
        PawnLane y = Due.lane("s00s00s00 t015 t125");
        due.chance("never: 0 by 1", y, y.odds(0), 0, 1);
        due.chance("odds(1)", y, y.odds(1), 1, 144);
        due.chance("odds(12): all lost", y, y.odds(12), 1, 1);
        due.is("odds(13)", y.odds(13), -1);
        due.is("odds(-1)", y.odds(-1), -1);
        due.is("upper() stays", y.upper(), 1);
        PawnLane z = Due.lane("s00s00");
        due.chance("no TICKETS", z, z.odds(5), 1, 1);
        PawnLane none = new PawnLane();
        due.is("no SHOPS", none.odds(5), -4);
        due.is("BAD ahead of STATE", none.odds(13), -1);
    }

    private static void lots() {
        // of seed 1: 48271, then 182605794, 1291394886
        PawnLane x = Due.lane("s00s00s90");
        // 48271 mod 3 = 1; by 16: 3016 mod 3 = 1, the same: it is GIVEN 1
        due.is("lots(1, 1)", x.lots(1, 1), 0);
        due.told("GIVEN 1", x, x.shop(1, 1), 1, 1);
        // 182605794 mod 3 = 0; by 16: 11412862 mod 3 = 1; by 256: 713303 mod 9 = 8, LOAN 9: 1 has too few
        x.undo(0);
        due.is("lots(2, 1)", x.lots(2, 1), 0);
        due.told("GIVEN 1 too", x, x.shop(0, 1), 1, 1);
        PawnLane y = Due.lane("s00s90s00");
        due.is("lots(2, 1), PAWNED", y.lots(2, 1), 1);
        due.told("its HOLDER", y, y.shop(0, 3), 1, 1);
        due.told("its LOAN", y, y.shop(0, 4), 1, 9);
        // 48271 mod 2 = 1
        PawnLane z = Due.lane("s00s20 t102");
        due.is("REDEEMED", z.lots(1, 1), 0);
        due.is("one DEED", z.count(2), 1);
        PawnLane w = Due.lane("s00s10 t102");
        due.is("a WEEK", w.lots(1, 1), 1);
        due.told("a WEEK older", w, w.shop(1, 5), 1, 1);
        due.is("lots(20, 2147483646)", w.lots(20, 2147483646), w.count(1));
        due.is("21 DEEDS", w.count(2), 21);
        due.is("lots(20, 1): FULL", w.lots(20, 1), -2);
        due.is("lots(19, 1)", w.lots(19, 1), w.count(1));
        due.is("40 DEEDS", w.count(2), 40);
        int[][] bad = {{0, 1}, {21, 1}, {-1, 1}, {1, 0}, {1, -1}, {1, Integer.MAX_VALUE}, {1, Integer.MIN_VALUE}};
        for (int[] b : bad) {
            due.is("lots(" + b[0] + ", " + b[1] + ")", w.lots(b[0], b[1]), -1);
        }
        PawnLane none = new PawnLane();
        due.is("no SHOPS", none.lots(1, 1), -4);
        due.is("BAD ahead of STATE", none.lots(0, 1), -1);
    }
}
