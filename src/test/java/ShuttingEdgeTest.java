import java.math.BigInteger;
import java.util.function.Supplier;
import java.util.function.ToIntFunction;

/** The edges of promises 37 to 41: shuts, missing, through, odds, lots. */
public final class ShuttingEdgeTest {
    private static final int BAD = Grid.BAD, FULL = Grid.FULL, STATE = Grid.STATE, MAX = Grid.MAX, MIN = Grid.MIN;
    private static final int NOTHING = Grid.NOTHING, UNLIKE = Grid.UNLIKE, SIZE = Grid.SIZE, RIGHT = Grid.RIGHT;
    private static final String RING = "s90s90s90s90s90s90 t011t121t231t341t451t501";
    /** 5 pays 4, with that 4 pays 3, and so on; 0 pays 5. */
    private static final String LINE = "s00s00s00s00s00s50 t545t435t325t215t105t055";
    private static final BigInteger FACTOR = BigInteger.valueOf(48271), MODULUS = BigInteger.valueOf(2147483647);
    private static final int LAST_SEED = 2147483646;
    private static final Due due = new Due("ShuttingEdgeTest");
    private static final Twins twins = new Twins(due);

    public static void main(String[] args) {
        shutsByOneShilling();
        shutsOnAndOn();
        shutsAsksAlone();
        missingOfAllSizes();
        missingOneMoreEach();
        missingSets();
        missingRefusals();
        throughOfAllSizes();
        throughRefusals();
        oddsOfOneAndOfSix();
        oddsRefusals();
        lotsByOneShilling();
        lotsNumbers();
        lotsAsDeeds();
        lotsRefusals();
        lotsFull();
        due.end();
    }

    // ---- promise 37

    private static void shutsByOneShilling() {
        for (int loan = 1; loan <= 9; loan++) {
            for (int has = 0; has <= 9; has++) {
                PawnLane x = Due.lane("s00s" + has + "0s00t01" + loan);
                String what = " with " + loan + " DUE to one that has " + has;
                due.is("shuts(0)" + what, x.shuts(0), has < loan ? 2 : 0);
                due.is("shuts(1)" + what, x.shuts(1), 1);
                due.is("shuts(2)" + what, x.shuts(2), 0);
            }
        }
        PawnLane x = Due.lane("s00h50t015");
        due.is("as many as are DUE", x.shuts(0), 0);
        x.week();
        due.is("what is DUE tells, not the LOAN", x.shuts(0), 2);
        x.give(1, 2);
        due.is("as many again", x.shuts(0), 0);
    }

    private static void shutsOnAndOn() {
        PawnLane none = Due.lane("s00s00s00s00s00s00");
        PawnLane ring = Due.lane("s00s00s00s00s00s00 t011t121t231t341t451t501");
        PawnLane rich = Due.lane(RING);
        PawnLane line = Due.lane("s90s90s90s90s90s90 t101t211t321t431t541");
        for (int s = 0; s < 6; s++) {
            due.is("none is whose", none.shuts(s), 0);
            due.is("that one aside, round a ring", ring.shuts(s), 63 - (1 << s));
            due.is("those inside, round a ring", rich.shuts(s), 63 - (1 << s));
            due.is("those inside, down a lane", line.shuts(s), 63 & -(2 << s));
        }
        // 0 shuts 1 (too few), 1 shuts 2 that is in it, and 3 that HOLDS it with too few
        due.is("up, down, and up", Due.lane("s00s20s90s40s00 t013 t211 t135").shuts(0), 14);
        due.is("up, and not further up", Due.lane("s00s20s90s50s00 t013 t211 t135").shuts(0), 6);
    }

    private static void shutsAsksAlone() {
        // 0 in 1 (has 2, DUE 4), 1 in 2 (has 13, DUE 7), 3 in 0 (has 5, DUE 6), 4 in 5 (has 4, DUE 5), 2 in 5 (DUE 3)
        int[] want = {2 + 8, 1 + 8, 1 + 2 + 8, 1 + 2, 1 + 2 + 4 + 8 + 32, 31};
        for (int i = 0; i < 6; i++) {
            int s = i;
            twins.still("shuts(" + s + ") asks alone", States::busy, x -> x.shuts(s), want[s]);
        }
    }

    // ---- promise 38

    private static int missingOf(PawnLane x, int... sets) {
        Due.lay(x, 0, sets);
        return x.missing(0);
    }

    private static void missingOfAllSizes() {
        int[] line = {32, 48, 56, 60, 62, 63};
        PawnLane x = Due.lane(LINE);
        for (int n = 1; n <= 6; n++) {
            due.is("the first " + n + " of a line", missingOf(x, java.util.Arrays.copyOf(line, n)), 1);
        }
        due.finds("of none", x, missingOf(x), SIZE);
        due.finds("of 7", x, missingOf(x, 32, 48, 56, 60, 62, 63, 63), SIZE);
        x.row(0, 40);
        due.finds("of 40", x, x.missing(0), SIZE);
        due.is("none is REDEEMED", x.count(1), 6);
        due.is("more than are IN PAWN", missingOf(Due.lane("s10s00t011"), 1, 1), 0);
        due.is("none IN PAWN", missingOf(Due.lane("s10s00"), 1), 0);
    }

    private static void missingOneMoreEach() {
        PawnLane x = Due.lane(RING);
        due.is("one", missingOf(x, 8), 1);
        due.is("one more", missingOf(x, 8, 9), 1);
        due.is("the first with none", missingOf(x, 0), 0);
        due.is("the first with none, the second with one", missingOf(x, 0, 1), 0);
        due.is("the first with two", missingOf(x, 3), 0);
        due.is("two more", missingOf(x, 1, 7), 0);
        due.is("none more", missingOf(x, 1, 1), 0);
        due.is("one less", missingOf(x, 1, 3, 2), 0);
        due.is("another one", missingOf(x, 1, 2), 0);
        due.is("one more, one less", missingOf(x, 1, 3, 6), 0);
        due.is("two more, one less", missingOf(x, 1, 6), 0);
        due.is("the last one wrong", missingOf(x, 1, 3, 7, 15, 31, 31), 0);
        due.is("all right", missingOf(x, 1, 3, 7, 15, 31, 63), 1);
        PawnLane y = Due.lane("s20s40s90 t012 t126");
        due.is("each when it can", missingOf(y, 1, 3), 1);
        due.is("not ahead of what it needs", missingOf(y, 2, 3), 0);
        due.is("not ahead of what it needs, alone", missingOf(y, 2), 0);
    }

    private static void missingSets() {
        PawnLane x = Due.lane("s10s00s00 t011");
        due.is("the largest set of three SHOPS is one", missingOf(x, 7), 0);
        due.finds("the next number is none", x, missingOf(x, 8), UNLIKE);
        due.is("the empty set is one", missingOf(x, 0), 0);
        due.finds("below it there is none", x, missingOf(x, -1), UNLIKE);
        due.finds("the largest number", x, missingOf(x, MAX), UNLIKE);
        due.finds("the least number", x, missingOf(x, MIN), UNLIKE);
        due.is("one that is not IN PAWN", missingOf(x, 4), 0);
        due.is("one that is not IN PAWN, too", missingOf(x, 1, 5), 0);
        PawnLane six = Due.lane(RING);
        due.is("63 is a set of six", missingOf(six, 63), 0);
        due.finds("64 is none", six, missingOf(six, 64), UNLIKE);
        for (int i = 0; i < 6; i++) {
            int[] sets = {1, 3, 7, 15, 31, 63};
            sets[i] = 64;
            due.finds("no set at " + i, six, missingOf(six, sets), UNLIKE);
        }
        due.finds("no set behind one that can't be", six, missingOf(six, 0, 64), UNLIKE);
        Due.lay(six, 0, 1, 64);
        six.row(0, 1);
        six.lay(0, 0, 1);
        due.is("older places don't count", six.missing(0), 1);
    }

    private static void missingRefusals() {
        Grid.Slot rows = Grid.right(States.ORDER_ROW).wrong(UNLIKE, States.ROW_OF_5)
            .wrong(SIZE, States.ROW_OF_NONE, States.ROW_OF_7, States.ROW_OF_40).wrong(NOTHING, States.MISSING_ROW)
            .wrong(BAD, -1, 6, MAX, MIN);
        new Grid(due, "missing", BAD, STATE, NOTHING, SIZE, UNLIKE)
            .state("busy", States::busy, RIGHT).state("full", States::full, RIGHT)
            .state("no SHOPS", States::noShops, STATE).slot(rows).check((x, a) -> x.missing(a[0]));
        twins.refused("SIZE ahead of UNLIKE", () -> {
            PawnLane x = States.busy();
            Due.lay(x, 0, -1, 1, 1, 1, 1, 1, 64);
            return x;
        }, x -> x.missing(0), SIZE);
        twins.still("missing() asks alone: 0", States::busy, x -> x.missing(States.ORDER_ROW), 0);
        twins.still("missing() asks alone: 1", () -> {
            PawnLane x = States.busy();
            Due.lay(x, 0, 4, 5);
            return x;
        }, x -> x.missing(0), 1);
    }

    // ---- promise 39

    private static void throughOfAllSizes() {
        long[] ways = {1, 1, 2, 6, 24, 120, 720};
        PawnLane x = Due.lane(RING);
        for (int set = 0; set < 64; set++) {
            int n = Integer.bitCount(set);
            due.chance("through(" + set + ") of a ring", x, x.through(set), ways[n] * ways[6 - n], 1);
        }
        PawnLane y = Due.lane(LINE);
        for (int set = 0; set < 64; set++) {
            boolean on = set == 0 || set == 32 || set == 48 || set == 56 || set == 60 || set == 62 || set == 63;
            due.chance("through(" + set + ") of a line", y, y.through(set), on ? 1 : 0, 1);
        }
        PawnLane none = Due.lane("s00s00");
        due.chance("none IN PAWN: the beginning is the end", none, none.through(0), 1, 1);
        due.is("none IN PAWN: another", none.through(1), BAD);
        // 0 can be, 1 can't: no ORDER of all, so none goes through anything
        PawnLane stuck = Due.lane("s10s00s00 t021 t121");
        due.chance("no ORDER of all: the beginning", stuck, stuck.through(0), 0, 1);
        due.chance("no ORDER of all: one that can be", stuck, stuck.through(1), 0, 1);
        due.chance("no ORDER of all: the end", stuck, stuck.through(3), 0, 1);
        // 0 behind 2
        PawnLane z = Due.lane("s00s90s90 t014 t121 t204");
        long[] want = {3, 0, 1, 0, 2, 1, 2, 3};
        for (int set = 0; set < 8; set++) {
            due.chance("through(" + set + ") of three", z, z.through(set), want[set], 1);
        }
    }

    private static void throughRefusals() {
        // 0 to 4 are IN PAWN, 5 is not
        new Grid(due, "through", BAD).state("busy", States::busy, RIGHT).state("full", States::full, RIGHT)
            .slot(Grid.right(0, 1, 31).wrong(BAD, 32, 33, 63, 64, 65, 1 << 30, MAX, MIN, -1, -32))
            .check((x, a) -> x.through(a[0]));
        new Grid(due, "through", BAD).state("no SHOPS", States::noShops, RIGHT).state("new", States::fresh, RIGHT)
            .slot(Grid.right(0).wrong(BAD, 1, 32, 64, MAX, MIN, -1)).check((x, a) -> x.through(a[0]));
        twins.chance("through() asks alone", States::busy, x -> x.through(5), 0, 1);
        twins.chance("through() asks alone, no SHOPS", States::noShops, x -> x.through(0), 1, 1);
    }

    // ---- promise 40

    private static void oddsAre(String text, int p, long upper, long lower) {
        PawnLane x = Due.lane(text);
        due.chance("odds(" + p + ") of '" + text + "'", x, x.odds(p), upper, lower);
    }

    private static void oddsOfOneAndOfSix() {
        int[][] twelfths = {{0, 1}, {1, 12}, {1, 6}, {1, 4}, {1, 3}, {5, 12}, {1, 2}, {7, 12}, {2, 3}, {3, 4}, {5, 6},
            {11, 12}, {1, 1}};
        String six = "s00s00s00s00s00s00 t011t121t231t341t451t501";
        for (int p = 0; p <= 12; p++) {
            oddsAre("s00s00", p, 1, 1);
            oddsAre("s10s00t011", p, 1, 1);
            oddsAre("s00s00t011", p, twelfths[p][0], twelfths[p][1]);
            oddsAre(RING, p, 1, 1);
            BigInteger all = BigInteger.valueOf(12).pow(6);
            BigInteger lost = BigInteger.valueOf(p).pow(6);
            BigInteger shared = all.gcd(lost);
            oddsAre(six, p, lost.divide(shared).longValueExact(), all.divide(shared).longValueExact());
        }
        // two can't be, one can: that one may be lost or not
        oddsAre("s00s00s10s00 t031 t131 t231", 6, 1, 4);
        // 1 can be only if 0 is not lost: 1 lost (1 of 4), or neither (9 of 16)
        oddsAre("s20s00s00 t012 t122", 3, 13, 16);
        oddsAre("s20s00s00 t012 t122", 12, 1, 1);
        oddsAre("s20s00s00 t012 t122", 0, 1, 1);
    }

    private static void oddsRefusals() {
        new Grid(due, "odds", BAD, STATE).state("busy", States::busy, RIGHT).state("full", States::full, RIGHT)
            .state("no SHOPS", States::noShops, STATE).state("new", States::fresh, STATE)
            .slot(Grid.right(0, 12).wrong(BAD, -1, 13, MAX, MIN)).check((x, a) -> x.odds(a[0]));
        // 1, 3 and 4 have to be lost
        twins.chance("odds(6) asks alone", States::busy, x -> x.odds(6), 1, 8);
        twins.chance("odds(0) asks alone", States::busy, x -> x.odds(0), 0, 1);
    }

    // ---- promise 41

    /** The seed from which this number comes first. */
    private static int seedOf(int number) {
        return BigInteger.valueOf(number).multiply(FACTOR.modInverse(MODULUS)).mod(MODULUS).intValueExact();
    }

    /** A number that tells this SHOP of so many, the other one and the LOAN. */
    private static int numberOf(int shops, int s, int to, int loan) {
        for (int it = 100000; it < 1000000; it++) {
            if (it % shops == s && it / 16 % shops == to && it / 256 % 9 + 1 == loan) {
                return it;
            }
        }
        throw new IllegalStateException();
    }

    private static long doneBy(PawnLane x, int answer) {
        due.holds("a DEED is done", answer >= 0);
        return x.digest();
    }

    private static void lotIs(String text, int number, ToIntFunction<PawnLane> deed) {
        PawnLane x = Due.lane(text);
        PawnLane y = Due.lane(text);
        String what = "the lot " + number + " on '" + text + "'";
        long want = doneBy(y, deed.applyAsInt(y));
        due.is(what + ": how many are IN PAWN then", x.lots(1, seedOf(number)), y.count(1));
        due.is(what + ": what was done", x.digest(), want);
        due.is(what + ": one DEED to undo", x.undo(0), 1);
        due.is(what + ": undone", x.digest(), Due.lane(text).digest());
    }

    private static void lotsByOneShilling() {
        for (int loan = 1; loan <= 9; loan++) {
            int it = numberOf(3, 0, 2, loan);
            lotIs("s00s00s" + loan + "0", it, x -> x.pawn(0, 2, it / 256 % 9 + 1));
            lotIs("s00s00s" + (loan - 1) + "0", it, x -> x.give(0, 1));
            lotIs("s" + loan + "0s00s90t02" + loan, it, x -> x.redeem(0));
            lotIs("s" + (loan - 1) + "0s00s90t02" + loan, it, PawnLane::week);
            lotIs("s90s90s90", numberOf(3, 1, 1, loan), x -> x.give(1, 1));
        }
        // what is DUE tells, not the LOAN
        PawnLane x = Due.lane("s50v00t015");
        x.week();
        due.is("a WEEK, as 8 are DUE", x.lots(1, seedOf(numberOf(2, 0, 1, 1))), 1);
        due.told("two WEEKS old", x, x.shop(0, 5), 1, 2);
    }

    private static void lotsNumbers() {
        due.is("the seed of 48271", seedOf(48271), 1);
        due.is("the seed of the last number less 48270", seedOf(LAST_SEED - 48270), LAST_SEED);
        String six = "s90s90s90s90s90s90";
        // 1: SHOP 1, the other one 0, a LOAN of 1
        lotIs(six, 1, x -> x.pawn(1, 0, 1));
        // 15 is 3 of 6, with 0; 16 is 4 of 6, with 1; 255 is 3 with 15 mod 6; 256 is 4 with 16 mod 6, a LOAN of 2
        lotIs(six, 15, x -> x.pawn(3, 0, 1));
        lotIs(six, 16, x -> x.pawn(4, 1, 1));
        lotIs(six, 255, x -> x.give(3, 1));
        lotIs(six, 254, x -> x.pawn(2, 3, 1));
        lotIs(six, 256, x -> x.give(4, 1));
        lotIs(six, 257, x -> x.pawn(5, 4, 2));
        lotIs(six, 256 * 8 + 1, x -> x.pawn(3, 2, 9));
        lotIs(six, 256 * 9 + 1, x -> x.pawn(1, 0, 1));
        // the largest: 2147483646 = 6 * 357913941; by 16: 134217727 mod 6 = 1; by 256: 8388607 mod 9 = 4
        lotIs(six, LAST_SEED, x -> x.pawn(0, 1, 5));
    }

    /** The DEEDS that lots() tells of, done one by one by the other calls. */
    private static void byHand(PawnLane x, int n, int seed) {
        BigInteger it = BigInteger.valueOf(seed);
        for (int i = 0; i < n; i++) {
            it = it.multiply(FACTOR).mod(MODULUS);
            int lot = it.intValueExact();
            int shops = x.count(0);
            int s = lot % shops;
            x.shop(s, 3);
            if (x.asked() != PawnLane.NONE) {
                doneBy(x, x.redeem(s) >= 0 ? 0 : x.week());
            } else {
                doneBy(x, x.pawn(s, lot / 16 % shops, lot / 256 % 9 + 1) > 0 ? 0 : x.give(s, 1));
            }
        }
    }

    private static void lotsAsDeeds() {
        String[] lanes = {"s00s00", "u90v20", "s10u20h30t011", "s90w90a90v90t012t239", RING, LINE,
            "v43w12s05u24h01a36t024t102t213t301t432t523"};
        int[] seeds = {1, 2, 3, 77, 31337, 48271, 1 << 30, LAST_SEED - 1, LAST_SEED};
        int[] sizes = {1, 2, 19, 20};
        for (String text : lanes) {
            for (int seed : seeds) {
                for (int n : sizes) {
                    PawnLane x = Due.lane(text);
                    PawnLane y = Due.lane(text);
                    byHand(y, n, seed);
                    String what = "lots(" + n + ", " + seed + ") on '" + text + "'";
                    due.is(what, x.lots(n, seed), y.count(1));
                    due.is(what + ": as by hand", x.digest(), y.digest());
                    due.is(what + ": DEEDS", x.count(2), n);
                    due.is(what + ": the last one undone", x.undo(n - 1), y.undo(n - 1));
                    due.is(what + ": as by hand then", x.digest(), y.digest());
                    due.is(what + ": all undone", x.undo(0), n - 1);
                    due.is(what + ": as at first", x.digest(), Due.lane(text).digest());
                }
            }
        }
    }

    private static void lotsRefusals() {
        new Grid(due, "lots", BAD, STATE, FULL)
            .state("busy", States::busy, RIGHT).state("full", States::full, FULL)
            .state("no SHOPS", States::noShops, STATE).state("new", States::fresh, STATE)
            .slot(Grid.right(1, 20).wrong(BAD, 0, -1, 21, MAX, MIN))
            .slot(Grid.right(1, LAST_SEED).wrong(BAD, 0, -1, MAX, MIN))
            .check((x, a) -> x.lots(a[0], a[1]));
    }

    private static Supplier<PawnLane> with(int deeds) {
        return () -> {
            PawnLane x = States.full();
            x.undo(deeds);
            return x;
        };
    }

    private static void lotsFull() {
        for (int n = 1; n <= 20; n++) {
            int lots = n;
            PawnLane x = with(40 - n).get();
            due.is("LOTS of " + n + " with room for them", x.lots(n, 9) >= 0 ? 1 : 0, 1);
            due.is("40 DEEDS", x.count(2), 40);
            twins.refused("LOTS of " + n + " with room for one less", with(41 - n), y -> y.lots(lots, 9), FULL);
        }
    }
}
