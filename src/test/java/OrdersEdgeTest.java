import java.util.List;
import java.util.function.Supplier;

/** The edges of promises 29 to 36: can, order, ways, most, least, free, till, run. */
public final class OrdersEdgeTest {
    private static final int BAD = Grid.BAD, STATE = Grid.STATE, MAX = Grid.MAX, MIN = Grid.MIN, NONE = PawnLane.NONE;
    private static final int NOTHING = Grid.NOTHING, BEYOND = Grid.BEYOND, UNLIKE = Grid.UNLIKE, SIZE = Grid.SIZE;
    private static final int RIGHT = Grid.RIGHT;
    private static final String RING = "s90s90s90s90s90s90 t011t121t231t341t451t501";
    /** 5 pays 4, with that 4 pays 3, and so on; 0 pays 5. */
    private static final String LINE = "s00s00s00s00s00s50 t545t435t325t215t105t055";
    private static final Due due = new Due("OrdersEdgeTest");
    private static final Twins twins = new Twins(due);

    public static void main(String[] args) {
        canByOneShilling();
        ordersOfAllSizes();
        theFirstOrder();
        orderRefusals();
        ways();
        most();
        leastOfNoneAndOf99();
        leastToTheFirst();
        freeOfAllSizes();
        theFirstThatFrees();
        freeRefusals();
        tillOfEachKind();
        tillEnds();
        runOfAllSizes();
        runTells();
        runRefusals();
        allInThisWeek();
        stateRefusals();
        asksAlone();
        due.end();
    }

    /** A LANE ahead of which some WEEKS have gone by. */
    private static PawnLane later(String text, int weeks) {
        PawnLane x = Due.lane(text);
        for (int i = 0; i < weeks; i++) {
            x.week();
        }
        return x;
    }

    // ---- promise 29

    private static void canByOneShilling() {
        for (int loan = 1; loan <= 9; loan++) {
            for (int has = 0; has <= 9; has++) {
                PawnLane x = Due.lane("s90s" + has + "0s00t12" + loan);
                due.is("can() by " + has + " of " + loan, x.can(), has >= loan ? 2 : 0);
            }
        }
        due.is("none IN PAWN", Due.lane("s90s90").can(), 0);
        due.is("all of six", Due.lane(RING).can(), 63);
        due.is("at once: not by what comes first", Due.lane(LINE).can(), 32);
        due.is("the last of six", Due.lane("s00s00s00s00s00s10t501").can(), 32);
    }

    // ---- promise 30

    private static void ordersOfAllSizes() {
        for (int n = 0; n <= 6; n++) {
            StringBuilder text = new StringBuilder(RING.substring(0, 19));
            for (int s = 0; s < n; s++) {
                text.append('t').append(s).append((s + 1) % 6).append(9);
            }
            int[] want = new int[n];
            for (int s = 0; s < n; s++) {
                want[s] = s;
            }
            PawnLane x = Due.lane(text.toString());
            due.is("an ORDER of " + n + " to a ROW that is missing", x.order(0), n);
            due.row("an ORDER of " + n, x, 0, want);
            x.row(1, 40);
            x.lay(1, 6, 5);
            due.is("an ORDER of " + n + " to a ROW of 40", x.order(1), n);
            due.row("a ROW anew", x, 1, want);
            x.row(5, 0);
            due.is("an ORDER of " + n + " to a ROW of none", x.order(5), n);
            due.row("a larger ROW anew", x, 5, want);
            due.is("none is REDEEMED", x.count(1), n);
            due.is("no DEED", x.count(2), 0);
        }
    }

    private static void orderIs(String text, int... want) {
        PawnLane x = Due.lane(text);
        due.is("order() of '" + text + "'", x.order(2), want.length);
        due.row("order() of '" + text + "'", x, 2, want);
    }

    private static void theFirstOrder() {
        orderIs(LINE, 5, 4, 3, 2, 1, 0);
        orderIs("s00s90s90 t024 t105 t201", 1, 0, 2);
        orderIs("s00s90s90 t014 t121 t205", 1, 2, 0);
        // as soon as 0 can be, it is the next
        orderIs("s00s10s10s10 t012 t101 t201 t301", 1, 2, 0, 3);
        orderIs("s00s10s10s10 t013 t101 t201 t301", 1, 2, 3, 0);
        PawnLane x = Due.lane("s00s10s10s10 t014 t101 t201 t301");
        due.is("one too few", x.order(0), NONE);
        due.finds("the ROW is missing still", x, x.at(0, 0), NOTHING);
        PawnLane y = later("s00s90 t104 t014", 5);
        due.is("this WEEK: just enough", y.order(0), 2);
        y.week();
        due.is("a WEEK later: too few", y.order(0), NONE);
        due.row("a ROW as it was", y, 0, 1, 0);
    }

    private static void orderRefusals() {
        new Grid(due, "order", BAD, STATE).state("none", States::busy, RIGHT)
            .state("some", () -> Due.lane(LINE), RIGHT)
            .state("no SHOPS", States::noShops, STATE).state("new", States::fresh, STATE)
            .slot(Grid.right(0, 3, 5).wrong(BAD, -1, 6, MAX, MIN)).check((x, a) -> x.order(a[0]));
        twins.still("order() of none changes nothing", States::busy, x -> x.order(0), NONE);
        twins.still("order() of none makes no ROW", States::busy, x -> x.order(States.MISSING_ROW), NONE);
    }

    // ---- promise 31

    private static void waysAre(String text, int want) {
        PawnLane x = Due.lane(text);
        due.chance("ways() of '" + text + "'", x, x.ways(), want, 1);
    }

    private static void ways() {
        waysAre("s00s00", 1);
        waysAre("s00s00t011", 0);
        waysAre("s10s00t011", 1);
        waysAre("s10s10t011t101", 2);
        waysAre(RING, 720);
        waysAre(LINE, 1);
        // 0 behind 2, 1 whenever
        waysAre("s00s90s90 t014 t121 t204", 3);
        // 0 behind both, 0 behind one of the two
        waysAre("s00s10s10 t012 t101 t201", 2);
        waysAre("s00s10s10 t011 t101 t201", 4);
        waysAre("s00s90s90s90s90s90 t015t101t201t301t401t501", 120);
        waysAre("s00s90s90s90s90s90 t014t101t201t301t401t501", 240);
        waysAre("s00s90s90s90s90s90 t016t101t201t301t401t501", 0);
        PawnLane x = States.busy();
        due.chance("lower() is 1 again", x, x.ways(), 0, 1);
    }

    // ---- promise 32

    private static void mostIs(String text, int most, int which) {
        PawnLane x = Due.lane(text);
        due.told("most() of '" + text + "'", x, x.most(), most, which);
    }

    private static void most() {
        mostIs("s00s00", 0, 0);
        mostIs("s00s00t011t101", 0, 0);
        mostIs("s00s10t011t101", 2, 3);
        mostIs("s00s10t012t101", 1, 2);
        mostIs(RING, 6, 63);
        mostIs(LINE, 6, 63);
        mostIs("s00s00s00s00s00s40 t545t435t325t215t105t055", 0, 0);
        mostIs("s00s00s00s00s00s50 t545t435t326t215t105t055", 2, 48);
        mostIs("s10s00s10s00s10s00 t031t142t251t302t411t522", 3, 21);
    }

    // ---- promise 33

    private static void leastIs(PawnLane x, String what, int least, int which) {
        x.shop(0, 0);
        int before = x.asked();
        due.told("least(): " + what, x, x.least(), least, least == NONE ? before : which);
    }

    private static void leastOfNoneAndOf99() {
        leastIs(Due.lane("s00s00"), "none IN PAWN", 0, 0);
        leastIs(Due.lane("s00s10t101"), "none lacks", 0, 0);
        leastIs(Due.lane("s00s00t101"), "one lacks 1", 1, 1);
        leastIs(later("s00v00t013", 32), "one lacks 99", 99, 0);
        leastIs(later("s00v00t014", 32), "one lacks 100", NONE, 0);
        leastIs(later("s00v00t011", 32), "one lacks 97", 97, 0);
        leastIs(later("v00s00t102", 32), "the last lacks 98", 98, 1);
        leastIs(later("v90s10t105", 32), "of 101 it has one", NONE, 0);
        leastIs(later("v90s20t105", 32), "of 101 it has two", 99, 1);
        leastIs(Due.lane("s00s00s00t021t121"), "two lack 1 each", NONE, 0);
        leastIs(Due.lane("s00s00s00s00s00s00t011t121t231t341t451"), "the innermost for all", 1, 0);
        leastIs(Due.lane(LINE.replace("s50", "s40")), "the last for all", 1, 5);
    }

    private static void leastToTheFirst() {
        // a ring: the same for each of it
        leastIs(Due.lane("s00s00s00t015t125t205"), "the first of three alike", 5, 0);
        leastIs(Due.lane("s00s10s20t015t125t205"), "the one that lacks least", 3, 2);
        leastIs(Due.lane("s00s20s20t015t125t205"), "the first of two that lack least", 3, 1);
        // what 1 pays is too little for 2: only from 2 on it goes round
        leastIs(Due.lane("s00s00s00t015t124t205"), "the only one", 5, 2);
        // one that is not IN PAWN is given none
        leastIs(Due.lane("s90s00s00t213"), "not to one that is not IN PAWN", 3, 2);
        // 0 lacks 1 after 1 has paid, 1 lacks none
        leastIs(Due.lane("s00s20s00t023t102"), "what comes counts", 1, 0);
    }

    // ---- promise 34

    private static void freeOfAllSizes() {
        for (int s = 0; s < 6; s++) {
            PawnLane x = Due.lane(LINE);
            int[] want = new int[6 - s];
            for (int i = 0; i < want.length; i++) {
                want[i] = 5 - i;
            }
            due.is("free(" + s + ", 0) of a line", x.free(s, 0), want.length);
            due.row("free(" + s + ", 0) of a line", x, 0, want);
            x.row(4, 40);
            due.is("free(" + s + ", 4) of a line", x.free(s, 4), want.length);
            due.row("a ROW anew", x, 4, want);
            due.is("none is REDEEMED", x.count(1), 6);
        }
        PawnLane none = Due.lane("s00s00t011");
        Due.lay(none, 1, 9, 9);
        due.is("it is not IN PAWN: of none", none.free(1, 1), 0);
        due.finds("a ROW of none", none, none.at(1, 0), BEYOND);
        due.is("the ROW is there", none.count(6), 1);
        due.is("to a ROW that was missing", none.free(1, 5), 0);
        due.is("it is there", none.count(6), 2);
        due.is("never", none.free(0, 3), NONE);
        due.is("no ROW more", none.count(6), 2);
        PawnLane one = Due.lane("s30s00t013");
        due.is("just as many", one.free(0, 0), 1);
        PawnLane less = Due.lane("s20s00t013");
        due.is("one too few", less.free(0, 0), NONE);
    }

    private static void freeIs(String text, int s, int... want) {
        PawnLane x = Due.lane(text);
        due.is("free(" + s + ", 2) of '" + text + "'", x.free(s, 2), want.length);
        due.row("free(" + s + ", 2) of '" + text + "'", x, 2, want);
    }

    private static void theFirstThatFrees() {
        freeIs(RING, 3, 3);
        // 0 lacks 5: 3 alone pays that, 1 and 2 together would
        freeIs("s00s90s90s90s00 t045 t102 t203 t305", 0, 3, 0);
        // two that pay as much: the first
        freeIs("s00s90s90s90s00 t045 t102 t205 t305", 0, 2, 0);
        // 1 and 2, 1 and 3 or 2 and 3
        freeIs("s00s90s90s90s00 t045 t103 t203 t303", 0, 1, 2, 0);
        freeIs("s00s90s90s90s00 t046 t102 t203 t303", 0, 2, 3, 0);
        // 2 pays by what 3 pays it
        freeIs("s00s00s00s90s00 t045 t205 t325", 0, 3, 2, 0);
    }

    private static void freeRefusals() {
        new Grid(due, "free", BAD).state("busy", States::busy, RIGHT).state("full", States::full, RIGHT)
            .slot(Grid.right(0, 1, 5).wrong(BAD, -1, 6, MAX, MIN)).slot(Grid.right(0, 3, 5).wrong(BAD, -1, 6, MAX, MIN))
            .check((x, a) -> x.free(a[0], a[1]));
        new Grid(due, "free", BAD).state("no SHOPS", States::noShops, BAD).state("new", States::fresh, BAD)
            .slot(Grid.right(0, -1)).slot(Grid.right(0, 6)).check((x, a) -> x.free(a[0], a[1]));
        twins.still("free() that is never changes nothing", States::busy, x -> x.free(States.POOR, 0), NONE);
        twins.still("free() that is never makes no ROW", States::busy, x -> x.free(States.POOR, 3), NONE);
        twins.rowOnly("free() changes its ROW alone", States::busy, x -> x.free(States.CAN, 0), 1, 0);
        twins.rowOnly("free() of none changes its ROW alone", States::busy, x -> x.free(States.OUT, 0), 0, 0);
    }

    // ---- promise 35

    private static void tillOfEachKind() {
        String letters = "suhwav";
        for (int kind = 0; kind < 6; kind++) {
            for (int has = 0; has <= 9; has++) {
                for (int loan = 1; loan <= 9; loan++) {
                    int want = NONE;
                    for (int w = 0; w <= 20; w++) {
                        int[] sums = {loan + w, loan, loan + 2 * w, loan + w / 2, Math.max(1, loan - w), loan + 3 * w};
                        want = sums[kind] <= has ? w : want;
                    }
                    PawnLane x = Due.lane("s" + has + "0" + letters.charAt(kind) + "00t01" + loan);
                    due.is("till() with KIND " + kind + " by " + has + " of " + loan, x.till(), want);
                }
            }
        }
    }

    private static PawnLane given(String text, int s, int v) {
        PawnLane x = Due.lane(text);
        x.give(s, v);
        return x;
    }

    private static void tillEnds() {
        due.is("none IN PAWN", Due.lane("s00s00").till(), 20);
        due.is("19 WEEKS", given("s00s00t019", 0, 28).till(), 19);
        due.is("20 WEEKS", given("s00s00t019", 0, 29).till(), 20);
        due.is("21 would do, 20 are told", given("s00s00t019", 0, 30).till(), 20);
        due.is("no WEEK at all", given("s00s00t019", 0, 9).till(), 0);
        due.is("not even now", given("s00s00t019", 0, 8).till(), NONE);
        // 0 can be from the second WEEK on, 2 till the fourth
        due.is("not yet, not any more", Due.lane("s70a00s90s00 t019 t235").till(), 4);
        due.is("not yet, and too late then", Due.lane("s20a00s90s00 t019 t235").till(), NONE);
        due.is("just in the one WEEK", Due.lane("s50a00s90s00 t019 t235").till(), 4);
        PawnLane x = later("s00s00t019", 3);
        x.give(0, 13);
        due.is("WEEKS from now on", x.till(), 1);
        due.is("none has gone by", x.count(2), 4);
        PawnLane old = later("s00s00t019", 39);
        old.give(0, 68);
        due.is("a TICKET of 39 WEEKS, 20 more", old.till(), 20);
        PawnLane older = later("s00s00t019", 39);
        older.give(0, 67);
        due.is("a TICKET of 39 WEEKS, 19 more", older.till(), 19);
    }

    // ---- promise 36

    private static int runOf(PawnLane x, int... shops) {
        Due.lay(x, 0, shops);
        return x.run(0);
    }

    private static void runOfAllSizes() {
        for (int n = 0; n <= 6; n++) {
            PawnLane x = Due.lane(RING);
            int[] shops = new int[n];
            for (int i = 0; i < n; i++) {
                shops[i] = 5 - i;
            }
            // each pays 1; only 0, the sixth, has been paid 1 ahead
            due.told("run of " + n, x, runOf(x, shops), n, n == 0 ? NONE : n == 6 ? 9 : 8);
            due.is("none is REDEEMED", x.count(1), 6);
        }
        PawnLane x = Due.lane(RING);
        due.finds("run of 7", x, runOf(x, 0, 1, 2, 3, 4, 5, 0), SIZE);
        x.row(0, 40);
        due.finds("run of 40", x, x.run(0), SIZE);
    }

    private static void runTells() {
        PawnLane x = Due.lane(LINE);
        due.told("all", x, runOf(x, 5, 4, 3, 2, 1, 0), 6, 0);
        due.told("till one can't be", x, runOf(x, 5, 4, 2, 3), 2, 0);
        due.told("the first can't be", x, runOf(x, 4, 5), 0, NONE);
        due.told("the same again", x, runOf(x, 5, 5, 4), 1, 0);
        PawnLane y = Due.lane("s90s40s00 t105 t014");
        due.told("not IN PAWN", y, runOf(y, 2), 0, NONE);
        due.told("not IN PAWN, behind", y, runOf(y, 0, 2, 1), 1, 5);
        due.told("then: with what has come", y, runOf(y, 0, 1), 2, 3);
        due.told("one too few", y, runOf(y, 1, 0), 0, NONE);
        y.give(1, 1);
        due.told("just as many, and what came before it", y, runOf(y, 1, 0), 2, 10);
    }

    private static void runRefusals() {
        Grid.Slot rows = Grid.right(States.ROW_OF_NONE, States.ORDER_ROW).wrong(UNLIKE, States.ROW_OF_5)
            .wrong(SIZE, States.ROW_OF_7, States.ROW_OF_40).wrong(NOTHING, States.MISSING_ROW)
            .wrong(BAD, -1, 6, MAX, MIN);
        new Grid(due, "run", BAD, STATE, NOTHING, SIZE, UNLIKE)
            .state("busy", States::busy, RIGHT).state("full", States::full, RIGHT)
            .state("no SHOPS", States::noShops, STATE).slot(rows).check((x, a) -> x.run(a[0]));
        PawnLane old = Due.lane("s10s00t011");
        Due.lay(old, 0, 0, 9, 9);
        old.row(0, 1);
        due.told("older places don't count", old, old.run(0), 1, 0);
        int[] none = {-1, 2, 6, MAX, MIN};
        for (int s : none) {
            for (int i = 0; i < 6; i++) {
                int[] shops = {1, 1, 1, 1, 1, 1};
                shops[i] = s;
                twins.refused("no SHOP " + s + " at " + i, () -> {
                    PawnLane x = Due.lane("s00s90t011");
                    Due.lay(x, 0, shops);
                    return x;
                }, x -> x.run(0), UNLIKE);
            }
        }
        twins.refused("SIZE ahead of UNLIKE", () -> {
            PawnLane x = States.busy();
            Due.lay(x, 0, 0, 0, 0, 0, 0, 0, 9);
            return x;
        }, x -> x.run(0), SIZE);
    }

    // ---- all of these

    /** 0 with 1, a HAWK, by a LOAN of 3: 5 are DUE in the first WEEK; it has just these, or one less. */
    private static void allInThisWeek() {
        for (int has = 4; has <= 5; has++) {
            boolean can = has == 5;
            PawnLane x = later("s" + has + "0h00t013", 1);
            String what = " in this WEEK by " + has;
            due.is("can()" + what, x.can(), can ? 1 : 0);
            due.is("order()" + what, x.order(0), can ? 1 : NONE);
            due.chance("ways()" + what, x, x.ways(), can ? 1 : 0, 1);
            due.told("most()" + what, x, x.most(), can ? 1 : 0, can ? 1 : 0);
            due.told("least()" + what, x, x.least(), can ? 0 : 1, 0);
            due.is("free()" + what, x.free(0, 0), can ? 1 : NONE);
            due.is("till()" + what, x.till(), can ? 0 : NONE);
            due.told("run()" + what, x, runOf(x, 0), can ? 1 : 0, can ? 0 : NONE);
            Due.lay(x, 0, 1);
            due.is("missing()" + what, x.missing(0), can ? 1 : 0);
            due.chance("through()" + what, x, x.through(1), can ? 1 : 0, 1);
            due.chance("odds()" + what, x, x.odds(6), 1, can ? 1 : 2);
        }
    }

    private static void stateRefusals() {
        List<Supplier<PawnLane>> without = List.of(States::fresh, States::noShops);
        for (Supplier<PawnLane> state : without) {
            twins.refused("no SHOPS: ways()", state, PawnLane::ways, STATE);
            twins.refused("no SHOPS: most()", state, PawnLane::most, STATE);
            twins.refused("no SHOPS: least()", state, PawnLane::least, STATE);
            twins.refused("no SHOPS: till()", state, PawnLane::till, STATE);
            twins.still("no SHOPS: can()", state, PawnLane::can, 0);
        }
    }

    private static void asksAlone() {
        Supplier<PawnLane> some = () -> {
            PawnLane x = Due.lane(LINE);
            x.keep(0);
            x.give(0, 1);
            x.odds(5);
            x.run(0);
            return x;
        };
        twins.still("can() asks alone", some, PawnLane::can, 32);
        twins.rowOnly("order() changes its ROW alone", some, x -> x.order(3), 6, 3);
        twins.rowOnly("free() changes its ROW alone", some, x -> x.free(2, 3), 4, 3);
        twins.chance("ways() asks alone", some, PawnLane::ways, 1, 1);
        twins.asks("most() asks alone", some, PawnLane::most, 6, 63);
        twins.asks("least() asks alone", some, PawnLane::least, 0, 0);
        twins.still("till() asks alone", some, PawnLane::till, 0);
        twins.still("least() of none changes nothing", States::busy, PawnLane::least, NONE);
        twins.still("till() of none changes nothing", States::busy, PawnLane::till, NONE);
        twins.chance("ways() of none", States::busy, PawnLane::ways, 0, 1);
        twins.asks("most() in busy()", States::busy, PawnLane::most, 2, 5);
        twins.still("can() in busy()", States::busy, PawnLane::can, 5);
        twins.asks("run() asks alone", States::busy, x -> x.run(States.ORDER_ROW), 1, 1);
        twins.asks("run() of none asks alone", States::busy, x -> x.run(States.ROW_OF_NONE), 0, NONE);
    }
}
