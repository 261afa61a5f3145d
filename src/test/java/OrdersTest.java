/** Promises 29 to 36: can, order, ways, most, least, free, till, run. */
public final class OrdersTest {
    private static final int NONE = PawnLane.NONE;
    private static final Due due = new Due("OrdersTest");

    public static void main(String[] args) {
        oneWay();
        anyWay();
        noWay();
        least();
        free();
        till();
        run();
        withoutShops();
        due.end();
    }

    /** 2 pays 1, with that 1 pays 0, with that 0 pays 3. */
    private static PawnLane line() {
        return Due.lane("s00s00s50s00 t035 t105 t215");
    }

    private static void oneWay() {
        PawnLane x = line();
        long before = x.digest();
        due.is("can()", x.can(), 4);
        due.chance("ways()", x, x.ways(), 1, 1);
        due.told("most()", x, x.most(), 3, 7);
        due.told("least()", x, x.least(), 0, 0);
        due.is("aside: nothing has changed", x.digest(), before);
        due.is("order(0)", x.order(0), 3);
        due.row("order(0)", x, 0, 2, 1, 0);
        due.told("run(0)", x, x.run(0), 3, 0);
        due.is("aside: none is REDEEMED", x.count(1), 3);
    }

    private static void anyWay() {
        PawnLane x = Due.lane("s90s90s90s90s90s90 t011t121t231t341t451t501");
        due.is("can()", x.can(), 63);
        due.chance("ways()", x, x.ways(), 720, 1);
        x.row(3, 40);
        due.is("order(3)", x.order(3), 6);
        due.row("order(3) anew", x, 3, 0, 1, 2, 3, 4, 5);
        due.told("most()", x, x.most(), 6, 63);
        PawnLane y = Due.lane("s00s00");
        due.is("order of none", y.order(1), 0);
        due.finds("order of none: a ROW of none", y, y.at(1, 0), 2);
        due.chance("ways of none", y, y.ways(), 1, 1);
        due.told("most of none", y, y.most(), 0, 0);
        due.is("can of none", y.can(), 0);
        due.told("least of none", y, y.least(), 0, 0);
        due.is("till of none", y.till(), 20);
        PawnLane z = Due.lane("s50s00 t014");
        due.is("can()", z.can(), 1);
        z.redeem(0);
        due.is("can() then", z.can(), 0);
    }

    private static void noWay() {
        // 0 and 4 can pay, what they pay is too little for the others
        PawnLane x = Due.lane("s50s00s00s00s20 t015 t129 t208 t309 t402");
        Due.lay(x, 2, 7, 8);
        due.is("can()", x.can(), 17);
        due.is("order(2)", x.order(2), NONE);
        due.row("a ROW as it was", x, 2, 7, 8);
        due.chance("ways()", x, x.ways(), 0, 1);
        due.told("most()", x, x.most(), 2, 17);
        x.row(0, 1);
        x.at(0, 0);
        due.told("least()", x, x.least(), NONE, 0);
        due.is("till()", x.till(), NONE);
        PawnLane y = Due.lane("s00s30s00 t203 t123 t012");
        due.told("most(): all, round the ring", y, y.most(), 3, 7);
        PawnLane z = Due.lane("s30s30s00 t024 t124");
        due.told("most() of none that can", z, z.most(), 0, 0);
        PawnLane w = Due.lane("s40s40s00s00 t024 t124 t233");
        due.told("most(): all, one after two", w, w.most(), 3, 7);
    }

    private static void least() {
        PawnLane x = Due.lane("s00s00s00s00 t035 t105 t215");
        due.told("to the innermost", x, x.least(), 5, 2);
        PawnLane y = Due.lane("s00s00s00 t023 t123");
        due.told("two that lack, none pays", y, y.least(), NONE, 0);
        PawnLane u = Due.lane("s20s20s00 t023 t123");
        due.told("two that lack one each", u, u.least(), NONE, 0);
        PawnLane z = Due.lane("s00s00 t015 t105");
        due.told("the first of as many", z, z.least(), 5, 0);
        PawnLane w = Due.lane("s00v00 t014");
        for (int i = 0; i < 31; i++) {
            w.week();
        }
        due.told("97", w, w.least(), 97, 0);
        w.week();
        w.shop(1, 0);
        due.told("100 are too many", w, w.least(), NONE, 5);
        w.give(0, 1);
        due.told("99 are not", w, w.least(), 99, 0);
        PawnLane v = Due.lane("s30s10s00 t014 t124");
        due.told("the second pays by the first", v, v.least(), 1, 0);
    }

    private static void free() {
        PawnLane x = line();
        due.is("free(2, 0)", x.free(2, 0), 1);
        due.row("free(2, 0)", x, 0, 2);
        due.is("free(0, 0)", x.free(0, 0), 3);
        due.row("free(0, 0)", x, 0, 2, 1, 0);
        due.is("free(3, 0): it is not", x.free(3, 0), 0);
        due.finds("free(3, 0): a ROW of none", x, x.at(0, 0), 2);
        // 0 lacks 5: of 1 2 (two ahead) or of 3 (one ahead)
        PawnLane y = Due.lane("s00s90s90s90s00 t045 t102 t203 t305");
        due.is("the fewest", y.free(0, 1), 2);
        due.row("the fewest", y, 1, 3, 0);
        PawnLane z = Due.lane("s00s90s90s90s00 t044 t104 t205 t305");
        due.is("the first of as few", z.free(0, 1), 2);
        due.row("the first of as few", z, 1, 1, 0);
        PawnLane w = Due.lane("s00s00s90 t014 t125");
        Due.lay(w, 4, 6);
        due.is("never", w.free(1, 4), NONE);
        due.row("never: a ROW as it was", w, 4, 6);
        due.is("free(0, 6)", w.free(0, 6), -1);
        due.is("free(0, -1)", w.free(0, -1), -1);
        due.is("free(3, 0)", w.free(3, 0), -1);
        due.is("free(-1, 0)", w.free(-1, 0), -1);
    }

    private static void till() {
        due.is("with a SHOP", Due.lane("s90s00 t014").till(), 5);
        due.is("with an UNCLE", Due.lane("s90u00 t014").till(), 20);
        due.is("with a HAWK", Due.lane("s90h00 t014").till(), 2);
        due.is("with a WIDOW", Due.lane("s90w00 t014").till(), 11);
        due.is("with an AUNT, not yet now", Due.lane("s10a00 t019").till(), 20);
        due.is("with a VULTURE", Due.lane("s90v00 t014").till(), 1);
        due.is("now alone", Due.lane("s40v00 t014").till(), 0);
        due.is("none of these", Due.lane("s30v00 t014").till(), NONE);
        PawnLane x = Due.lane("s90s00 t014");
        x.week();
        x.week();
        due.is("two have gone by", x.till(), 3);
        due.is("aside", x.count(2), 2);
        // 1 pays 0, an AUNT, less each WEEK; 0 pays 2 more
        PawnLane y = Due.lane("a00s90s20 t025 t109");
        due.is("what comes in falls, what goes out grows", y.till(), 2);
    }

    private static void run() {
        PawnLane x = line();
        Due.lay(x, 0, 2, 1, 2, 0);
        due.told("the same twice can't be", x, x.run(0), 2, 0);
        Due.lay(x, 0, 0, 2);
        due.told("the first can't be", x, x.run(0), 0, NONE);
        Due.lay(x, 0, 3);
        due.told("not IN PAWN", x, x.run(0), 0, NONE);
        x.row(0, 0);
        due.told("of none", x, x.run(0), 0, NONE);
        PawnLane y = Due.lane("s90s30 t014 t101");
        Due.lay(y, 0, 0, 1, 0, 0, 0, 0);
        due.told("SHILLINGS of the last one", y, y.run(0), 2, 6);
        x.shop(0, 0);
        due.is("run(6)", x.run(6), -1);
        due.is("run(-1)", x.run(-1), -1);
        due.finds("run(5)", x, x.run(5), 1);
        Due.lay(x, 0, 9, 9, 9, 9, 9, 9, 9);
        due.finds("SIZE ahead of UNLIKE", x, x.run(0), 5);
        Due.lay(x, 0, 0, 4);
        due.finds("no SHOP behind one that can't be", x, x.run(0), 3);
        Due.lay(x, 0, -1);
        due.finds("no SHOP", x, x.run(0), 3);
    }

    private static void withoutShops() {
        PawnLane x = new PawnLane();
        due.is("can", x.can(), 0);
        due.is("order(6)", x.order(6), -1);
        due.is("order(-1)", x.order(-1), -1);
        due.is("order", x.order(0), -4);
        due.is("ways", x.ways(), -4);
        due.is("most", x.most(), -4);
        due.is("least", x.least(), -4);
        due.is("free", x.free(0, 0), -1);
        due.is("till", x.till(), -4);
        due.is("run(6)", x.run(6), -1);
        due.is("run: STATE ahead of NOTHING", x.run(0), -4);
        due.is("no FINDING", x.finding(), 0);
    }
}
