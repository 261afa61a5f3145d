/** The edges of promises 10 to 14: fault, lane, shop, mark, stock; and of what is DUE. */
public final class LanesEdgeTest {
    private static final int BAD = Grid.BAD, STATE = Grid.STATE, MAX = Grid.MAX, MIN = Grid.MIN, NONE = PawnLane.NONE;
    private static final int NOTHING = Grid.NOTHING, UNLIKE = Grid.UNLIKE;
    private static final String LETTERS = "suhwav", FIGURES = "0123456789";
    private static final Due due = new Due("LanesEdgeTest");
    private static final Twins twins = new Twins(due);

    public static void main(String[] args) {
        everySign();
        everyEnd();
        faultsByName();
        blanks();
        faultsOneBehindTheOther();
        faultsOfFullTexts();
        faultRefusals();
        lanesOfAllSizes();
        laneAnew();
        laneRefusals();
        shopTells();
        shopRefusals();
        dueOfAll();
        marksOfNoneAndOfFive();
        marksOfEachKind();
        vultureCountsWhoCan();
        markRefusals();
        stock();
        due.end();
    }

    // ---- promise 10

    private static int faultOf(String text) {
        PawnLane x = new PawnLane();
        Due.write(x, 0, text);
        return x.fault(0);
    }

    private static void faultIs(String text, int want) {
        due.is("fault of '" + text + "'", faultOf(text), want);
    }

    /** At a place of a text that is right so far, just these signs are no FAULT. */
    private static void goesOnBy(String text, int place, String signs) {
        for (int v = 0; v < 256; v++) {
            String other = text.substring(0, place) + (char) v + text.substring(place + 1);
            boolean right = signs.indexOf((char) v) >= 0;
            due.is("'" + text + "' with " + v + " at " + place + " is a FAULT there",
                faultOf(other) == place ? 1 : 0, right ? 0 : 1);
        }
    }

    private static void everySign() {
        String text = "s12u34 t015 t102 ";
        String[] signs = {
            " " + LETTERS, FIGURES, FIGURES,
            " " + LETTERS, FIGURES, FIGURES,
            " t" + LETTERS,
            " t" + LETTERS, "01", "1", "123456789",
            " t", " t", "1", "0", "123456789", " t"};
        due.is("as many signs as places", signs.length, text.length());
        faultIs(text, NONE);
        for (int i = 0; i < text.length(); i++) {
            goesOnBy(text, i, signs[i]);
        }
        String six = "s00u00h00w00a00v00t051t504";
        faultIs(six, NONE);
        goesOnBy(six, 15, " t" + LETTERS);
        goesOnBy(six, 18, " t");
        goesOnBy(six, 19, "012345");
        goesOnBy(six, 20, "12345");
        goesOnBy(six, 23, "12345");
        goesOnBy(six, 24, "01234");
    }

    /** The TEXT's size, if its end comes too early. */
    private static void everyEnd() {
        String text = "s12u34 t015 t102";
        int[] want = {0, 1, 2, 3, 4, 5, NONE, NONE, 8, 9, 10, NONE, NONE, 13, 14, 15, NONE};
        for (int n = 0; n <= text.length(); n++) {
            faultIs(text.substring(0, n), want[n]);
        }
    }

    private static void faultsByName() {
        // a letter that is none
        faultIs("x00s00", 0);
        faultIs("s00S00", 3);
        faultIs("s00s00T011", 6);
        faultIs("000s00", 0);
        // a figure that is none
        faultIs("sx0s00", 1);
        faultIs("s0xs00", 2);
        faultIs("s00s00t01x", 9);
        faultIs("s00s00t01/", 9);
        faultIs("s00s00t01:", 9);
        // none such: a LOAN of 0
        faultIs("s00s00t010", 9);
        faultIs("s00s00t011", NONE);
        faultIs("s00s00t019", NONE);
        // a SHOP that there is not
        faultIs("s00s00t201", 7);
        faultIs("s00s00t021", 8);
        faultIs("s00s00t901", 7);
        faultIs("s00s00t091", 8);
        faultIs("s00s00s00s00s00t501", 16);
        faultIs("s00s00s00s00s00t051", 17);
        faultIs("s00s00s00s00s00s00t501", NONE);
        faultIs("s00s00s00s00s00s00t051", NONE);
        faultIs("s00s00s00s00s00s00t601", 19);
        faultIs("s00s00s00s00s00s00t061", 20);
        // the same twice
        faultIs("s00s00t001", 8);
        faultIs("s00s00t111", 8);
        // a SHOP that is IN PAWN already, at its figure
        faultIs("s00s00s00t011t021", 14);
        faultIs("s00s00t011t102t0", 15);
        faultIs("s00s00t011t102t", 15);
        // a HOLDER may be one already, and may be IN PAWN
        faultIs("s00s00s00t021t121", NONE);
        faultIs("s00s00s00t011t121t201", NONE);
        // a seventh SHOP, at its letter, whatever is behind
        faultIs("s00s00s00s00s00s00s", 18);
        faultIs("s00s00s00s00s00s00 sxx", 19);
        faultIs("s00s00s00s00s00s00", NONE);
        // a SHOP behind a TICKET
        faultIs("s00s00t011s00", 10);
        faultIs("s00s00t011 u", 11);
        // a TICKET ahead of two SHOPS
        faultIs("t", 0);
        faultIs(" t011", 1);
        faultIs("s00t011s00", 3);
        faultIs("s00 t", 4);
        // fewer than two SHOPS at the end: the TEXT's size
        faultIs("", 0);
        faultIs("  ", 2);
        faultIs("s00", 3);
        faultIs("s00   ", 6);
        // the first of two
        faultIs("s0xx00", 2);
        faultIs("s00s00t00t9", 8);
    }

    private static void blanks() {
        faultIs("s00s00", NONE);
        faultIs("   s00s00", NONE);
        faultIs("s00   s00", NONE);
        faultIs("s00s00   ", NONE);
        faultIs("s00s00   t011   t101   ", NONE);
        faultIs("s 00s00", 1);
        faultIs("s0 0s00", 2);
        faultIs("s00s00t 011", 7);
        faultIs("s00s00t0 11", 8);
        faultIs("s00s00t01 1", 9);
        faultIs("s00s00t01 ", 9);
        faultIs("s00\ts00", 3);
        faultIs("s00\ns00", 3);
        faultIs("s00" + (char) 0 + "s00", 3);
        faultIs("s00" + (char) 160 + "s00", 3);
    }

    /** What one TEXT left unsaid must not be heard in the next. */
    private static void faultsOneBehindTheOther() {
        String[] texts = {"s", "s0", "s00", "s00s00", "s00s00t", "s00s00t0", "s00s00t01", "s00s00t011", "00s00", "0", "t011"};
        int[] want = {1, 2, 3, NONE, 7, 8, 9, NONE, 0, 0, 0};
        for (int i = 0; i < texts.length; i++) {
            for (int j = 0; j < texts.length; j++) {
                PawnLane x = new PawnLane();
                Due.write(x, 0, texts[i]);
                Due.write(x, 1, texts[j]);
                due.is("'" + texts[i] + "'", x.fault(0), want[i]);
                due.is("'" + texts[j] + "' behind '" + texts[i] + "'", x.fault(1), want[j]);
                due.is("lane of '" + texts[i] + "'", x.lane(0), want[i] == NONE ? 2 : STATE);
                due.is("lane of '" + texts[j] + "' then", x.lane(1), want[j] == NONE ? 2 : STATE);
            }
        }
        PawnLane x = Due.lane("s00s00s00t011t121t201");
        Due.write(x, 0, "s00s00t011");
        due.is("a smaller LANE behind a larger one", x.lane(0), 2);
        due.is("its own TICKET alone", x.count(1), 1);
        due.is("the larger one again", x.lane(3), 3);
        due.is("its own TICKETS", x.count(1), 3);
    }

    private static void faultsOfFullTexts() {
        String blank = " ".repeat(54);
        faultIs(blank + "s00s00", NONE);
        faultIs("s00s00" + blank, NONE);
        faultIs("s00" + blank + "s00", NONE);
        faultIs("s00" + blank + "s0x", 59);
        faultIs("s00" + blank + "   ", 60);
        faultIs(blank.substring(0, 53) + "s00s00t", 60);
        faultIs("s99u99h99w99a99v99t019t129t239t349t459t509" + " ".repeat(18), NONE);
        faultIs("s99u99h99w99a99v99" + " ".repeat(18) + "t019t129t239t349t459t509", NONE);
        faultIs("s99u99h99w99a99v99" + " ".repeat(18) + "t019t129t239t349t459t500", 59);
    }

    private static void faultRefusals() {
        new Grid(due, "fault", BAD, NOTHING).state("busy", States::busy, Grid.RIGHT)
            .slot(Grid.right(0, 1, 3).wrong(NOTHING, States.MISSING_TEXT).wrong(BAD, -1, 4, MAX, MIN))
            .check((x, a) -> x.fault(a[0]));
        twins.still("fault asks alone: none", States::busy, x -> x.fault(States.LANE_TEXT), NONE);
        twins.still("fault asks alone: one", States::busy, x -> x.fault(States.FAULT_TEXT), 5);
        twins.still("fault asks alone: of none", States::busy, x -> x.fault(States.TEXT_OF_NONE), 0);
    }

    // ---- promise 11

    private static void lanesOfAllSizes() {
        String shops = "v01a23w45h67u89s90";
        for (int n = 2; n <= 6; n++) {
            PawnLane x = Due.lane(shops.substring(0, 3 * n));
            due.is(n + " SHOPS", x.lane(3), n);
            due.is("count(0)", x.count(0), n);
            for (int s = 0; s < n; s++) {
                due.told("KIND of " + s, x, x.shop(s, 0), 1, 5 - s);
                due.told("SHILLINGS of " + s, x, x.shop(s, 1), 1, shops.charAt(3 * s + 1) - '0');
                due.told("STOCK of " + s, x, x.shop(s, 2), 1, shops.charAt(3 * s + 2) - '0');
                due.told("no HOLDER of " + s, x, x.shop(s, 3), 1, NONE);
            }
            due.is("no SHOP " + n, x.shop(n, 0), BAD);
        }
    }

    private static void laneAnew() {
        PawnLane x = States.full();
        due.is("40 DEEDS ahead", x.count(2), 40);
        due.is("two kept ahead", x.count(8), 2);
        due.is("lane anew", x.lane(States.LANE_TEXT), 6);
        due.is("no DEEDS", x.count(2), 0);
        due.is("none kept", x.count(8), 0);
        due.is("no DEED to undo", x.undo(1), BAD);
        for (int k = 0; k < 3; k++) {
            due.finds("kept LANES go: " + k, x, x.on(k), NOTHING);
        }
        int[] shillings = {5, 2, 9, 1, 3, 7};
        int[] holders = {1, 2, NONE, 0, 5, NONE};
        for (int s = 0; s < 6; s++) {
            due.told("SHILLINGS anew of " + s, x, x.shop(s, 1), 1, shillings[s]);
            due.told("HOLDER anew of " + s, x, x.shop(s, 3), 1, holders[s]);
            due.told("0 WEEKS of " + s, x, x.shop(s, 5), 1, 0);
        }
        due.is("STOCK may be set again", x.stock(0, 1), 0);
        for (int i = 1; i <= 40; i++) {
            due.is("room for DEED " + i, x.give(5, 1), 7 + i);
        }
        due.is("and no more", x.give(5, 1), PawnLane.FULL);
        x.put(States.LANE_TEXT, 1, '9');
        due.told("a LANE is not its TEXT", x, x.shop(0, 1), 1, 5);
        PawnLane two = States.busy();
        Due.write(two, 3, "a10s20");
        due.is("from six SHOPS to two", two.lane(3), 2);
        due.is("none IN PAWN", two.count(1), 0);
        due.is("SHILLINGS of two", two.count(3), 3);
        due.is("no third", two.shop(2, 0), BAD);
        due.is("back to six", two.lane(States.LANE_TEXT), 6);
        due.is("four IN PAWN", two.count(1), 4);
    }

    private static void laneRefusals() {
        Grid.Slot texts = Grid.right(States.LANE_TEXT).wrong(STATE, States.FAULT_TEXT, States.TEXT_OF_NONE)
            .wrong(NOTHING, States.MISSING_TEXT).wrong(BAD, -1, 4, MAX, MIN);
        new Grid(due, "lane", BAD, NOTHING, STATE)
            .state("busy", States::busy, Grid.RIGHT).state("full", States::full, Grid.RIGHT)
            .state("no SHOPS", States::noShops, Grid.RIGHT)
            .slot(texts).check((x, a) -> x.lane(a[0]));
        // a FAULT at the very end: what was read ahead of it must not stay
        String[] wrong = {"a11v22h33t019t124t20", "u11", "s99s99s99s99s99s99 t101 t10", "w12w34x"};
        for (String text : wrong) {
            twins.refused("lane of '" + text + "'", () -> {
                PawnLane x = States.busy();
                Due.write(x, 3, text);
                return x;
            }, x -> x.lane(3), STATE);
        }
    }

    // ---- promise 12

    private static void shopTells() {
        PawnLane x = Due.lane("s00s99s50 t019 t219");
        int[][] want = {{0, 0, 0, 1, 9, 0, 0}, {0, 9, 9, NONE, 0, 0, 5}, {0, 5, 0, 1, 9, 0, 0}};
        for (int s = 0; s < 3; s++) {
            for (int what = 0; what <= 6; what++) {
                due.told("shop(" + s + ", " + what + ")", x, x.shop(s, what), 1, want[s][what]);
            }
        }
        PawnLane y = Due.lane("s00s00s00s00s00s00 t101t201t301t401t501");
        due.told("HOLDS all others", y, y.shop(0, 6), 1, 62);
        due.told("HOLDS none", y, y.shop(5, 6), 1, 0);
        for (int i = 1; i <= 40; i++) {
            y.week();
            due.told("WEEKS of a TICKET", y, y.shop(5, 5), 1, i);
            due.told("WEEKS of none", y, y.shop(0, 5), 1, 0);
        }
        PawnLane z = Due.lane("s90s90 t014");
        z.week();
        z.redeem(0);
        due.told("REDEEMED: no HOLDER", z, z.shop(0, 3), 1, NONE);
        due.told("REDEEMED: nothing DUE", z, z.shop(0, 4), 1, 0);
        due.told("REDEEMED: no WEEKS", z, z.shop(0, 5), 1, 0);
        due.told("REDEEMED: HELD no more", z, z.shop(1, 6), 1, 0);
        for (int what = 0; what <= 6; what++) {
            int w = what;
            int[] asked = {2, 13, 0, 5, 3, 0, 2};
            twins.asks("shop(2, " + w + ") asks alone", States::busy, v -> v.shop(2, w), 1, asked[w]);
        }
    }

    private static void shopRefusals() {
        new Grid(due, "shop", BAD).state("busy", States::busy, Grid.RIGHT)
            .slot(Grid.right(0, 5).wrong(BAD, -1, 6, MAX, MIN)).slot(Grid.right(0, 6).wrong(BAD, -1, 7, MAX, MIN))
            .check((x, a) -> x.shop(a[0], a[1]));
        new Grid(due, "shop", BAD).state("no SHOPS", States::noShops, BAD)
            .slot(Grid.right(-1, 0, 1)).slot(Grid.right(-1, 0, 6)).check((x, a) -> x.shop(a[0], a[1]));
        twins.refused("shop(2, 0) of two", () -> Due.lane("s00s00"), x -> x.shop(2, 0), BAD);
    }

    // ---- what is DUE

    private static void dueOfAll() {
        for (int kind = 0; kind < 6; kind++) {
            for (int loan = 1; loan <= 9; loan++) {
                PawnLane x = Due.lane("v00" + LETTERS.charAt(kind) + "00t01" + loan);
                for (int w = 0; w <= 40; w++) {
                    int[] want = {loan + w, loan, loan + 2 * w, loan + w / 2, Math.max(1, loan - w), loan + 3 * w};
                    due.told("a LOAN of " + loan + " with KIND " + kind + " in " + w + " WEEKS", x,
                        x.shop(0, 4), 1, want[kind]);
                    due.is("and all that is DUE", x.count(4), want[kind]);
                    x.week();
                }
            }
        }
        // the KIND of the HOLDER tells, not that of the SHOP
        for (int i = 0; i < 6; i++) {
            PawnLane x = Due.lane(LETTERS.charAt(i) + "00h00t014");
            x.week();
            due.told("DUE of KIND " + i + " with a HAWK", x, x.shop(0, 4), 1, 6);
        }
    }

    // ---- promise 13

    private static void marksOfNoneAndOfFive() {
        int[][] kinds = {{1, 1}, {2, 2}, {3, 3}, {4, 1}, {4, 4}, {5, 2}, {5, 5}};
        int[] five = {1 + 9 + 4 + 4 + 4, 10, 5, 22, 0 + 2 + 2 + 2 + 2, 15, 0};
        for (int i = 0; i < kinds.length; i++) {
            int kind = kinds[i][0];
            int as = kinds[i][1];
            PawnLane none = Due.lane(LETTERS.charAt(kind) + "00s90 t019");
            due.is("KIND " + kind + " as " + as + " of none", none.mark(0, as), 0);
            PawnLane x = Due.lane(LETTERS.charAt(kind) + "99s00s00s00s00s00 t101 t209 t304 t404 t504");
            x.week();
            x.week();
            due.is("KIND " + kind + " as " + as + " of five", x.mark(0, as), five[i]);
        }
    }

    private static void marksOfEachKind() {
        String[] tells = {"", "u a", "h v", "w", "a", "v"};
        for (int own = 0; own < 6; own++) {
            for (int kind = 1; kind < 6; kind++) {
                PawnLane x = Due.lane(LETTERS.charAt(own) + "00s00");
                boolean is = tells[kind].indexOf(LETTERS.charAt(own)) >= 0;
                due.is("KIND " + own + " as " + kind, x.mark(0, kind), is ? 0 : PawnLane.FINDING);
                due.is("its FINDING", x.finding(), is ? 0 : UNLIKE);
                due.is("how often", x.findings(UNLIKE), is ? 0 : 1);
            }
        }
        PawnLane x = Due.lane("a00s00 t101");
        due.is("an AUNT of a LOAN of 1, now", x.mark(0, 4), 0);
        for (int i = 0; i < 40; i++) {
            x.week();
        }
        due.is("1 at least is DUE", x.mark(0, 4), 0);
        PawnLane y = Due.lane("a00s00 t109");
        int[] less = {0, 1, 2, 3, 4, 5, 6, 7, 8, 8, 8};
        for (int w = 0; w < less.length; w++) {
            due.is("an AUNT of a LOAN of 9 in " + w + " WEEKS", y.mark(0, 4), less[w]);
            due.is("its LOAN stays", y.mark(0, 1), 9);
            y.week();
        }
    }

    private static void vultureCountsWhoCan() {
        PawnLane x = Due.lane("v00s40s50s60 t105 t205 t305");
        due.is("fewer, as many, more", x.mark(0, 5), 2);
        x.week();
        due.is("a WEEK later", x.mark(0, 5), 0);
        x.give(1, 4);
        due.is("as many again", x.mark(0, 5), 1);
        x.redeem(1);
        due.is("HELD no more", x.mark(0, 5), 0);
        due.is("the first SHOP counts, too", Due.lane("s50v00t015").mark(1, 5), 1);
        due.is("not by what another one could pay it", Due.lane("s50s00v00t015t125").mark(2, 5), 0);
        PawnLane y = Due.lane("v00s90s90 t121 t201");
        due.is("those of others don't count", y.mark(0, 5), 1);
    }

    private static void markRefusals() {
        new Grid(due, "mark", BAD, UNLIKE).state("busy", States::busy, Grid.RIGHT)
            .slot(Grid.right(1).wrong(UNLIKE, 0, 2, 3, 5).wrong(BAD, -1, 6, MAX, MIN))
            .slot(Grid.right(1).wrong(BAD, 0, -1, 6, MAX, MIN))
            .check((x, a) -> x.mark(a[0], a[1]));
        new Grid(due, "mark", BAD, UNLIKE).state("busy", States::busy, Grid.RIGHT)
            .slot(Grid.right(5)).slot(Grid.right(2, 5).wrong(UNLIKE, 1, 3, 4)).check((x, a) -> x.mark(a[0], a[1]));
        new Grid(due, "mark", BAD).state("no SHOPS", States::noShops, BAD)
            .slot(Grid.right(-1, 0, 1)).slot(Grid.right(0, 1, 5)).check((x, a) -> x.mark(a[0], a[1]));
        // 1, an UNCLE, HOLDS 0; 2, a HAWK, HOLDS 1; 3 none; 4, an AUNT, none; 5, a VULTURE, HOLDS 2 (can be), 4 (can't)
        int[][] tells = {{1, 1, 4}, {2, 2, 2}, {3, 3, 0}, {4, 4, 0}, {4, 1, 0}, {5, 2, 6}, {5, 5, 1}};
        for (int[] t : tells) {
            twins.still("mark(" + t[0] + ", " + t[1] + ") asks alone", States::busy, x -> x.mark(t[0], t[1]), t[2]);
        }
    }

    // ---- promise 14

    private static void stock() {
        PawnLane x = Due.lane("s12s34");
        for (int v = 0; v <= 9; v++) {
            due.is("stock(1, " + v + "): what it was", x.stock(1, v), v == 0 ? 4 : v - 1);
            due.told("its STOCK", x, x.shop(1, 2), 1, v);
        }
        due.told("the other one's", x, x.shop(0, 2), 1, 2);
        due.is("it is no DEED", x.count(2), 0);
        new Grid(due, "stock", BAD, STATE).state("just read", States::justRead, Grid.RIGHT)
            .state("busy", States::busy, STATE).state("full", States::full, STATE)
            .slot(Grid.right(0, 5).wrong(BAD, -1, 6, MAX, MIN)).slot(Grid.right(0, 9).wrong(BAD, -1, 10, MAX, MIN))
            .check((y, a) -> y.stock(a[0], a[1]));
        new Grid(due, "stock", BAD).state("no SHOPS", States::noShops, BAD)
            .slot(Grid.right(-1, 0, 1)).slot(Grid.right(0, 9)).check((y, a) -> y.stock(a[0], a[1]));
        twins.refused("one DEED is enough", () -> {
            PawnLane y = States.justRead();
            y.week();
            return y;
        }, y -> y.stock(0, 1), STATE);
        PawnLane z = States.busy();
        z.undo(0);
        due.is("all DEEDS undone", z.stock(4, 9), 4);
        z.on(States.KEPT_1);
        due.told("STOCK as kept", z, z.shop(4, 2), 1, 4);
    }
}
