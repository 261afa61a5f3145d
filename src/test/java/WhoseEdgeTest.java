import java.util.function.Supplier;

/** The edges of promises 22 to 28: deep, inside, rings, goods, hangs, worth, chalk. */
public final class WhoseEdgeTest {
    private static final int BAD = Grid.BAD, STATE = Grid.STATE, MAX = Grid.MAX, MIN = Grid.MIN, NONE = PawnLane.NONE;
    private static final int RIGHT = Grid.RIGHT;
    private static final String SIX = "s01s02s04s08s03s05";
    private static final int[] STOCK = {1, 2, 4, 8, 3, 5};
    private static final Due due = new Due("WhoseEdgeTest");
    private static final Twins twins = new Twins(due);

    public static void main(String[] args) {
        noneIsWhose();
        downTheWholeLane();
        allWithOne();
        ringsOfAllSizes();
        intoARing();
        twoAndThreeRings();
        hangsTheFirst();
        shopRefusals();
        stateRefusals();
        asksAlone();
        worthOfLeastAndMost();
        chalkLooks();
        chalkHalves();
        chalkRefusals();
        due.end();
    }

    private static void tellsOf(PawnLane x, int s, int deep, int end, int inside) {
        // asked() would hide a NONE that tells
        x.shop(0, 0);
        due.told("deep(" + s + ")", x, x.deep(s), deep, deep == NONE ? 0 : end);
        due.is("inside(" + s + ")", x.inside(s), inside);
        int goods = 0;
        for (int other = 0; other < STOCK.length; other++) {
            goods += (inside >> other & 1) * STOCK[other];
        }
        due.is("goods(" + s + ")", x.goods(s), goods);
    }

    // ---- promises 22 to 26

    private static void noneIsWhose() {
        PawnLane x = Due.lane(SIX);
        for (int s = 0; s < 6; s++) {
            tellsOf(x, s, 0, s, 1 << s);
        }
        due.told("no rings", x, x.rings(), 0, 0);
        due.told("each has itself: the first", x, x.hangs(), 0, 1);
    }

    private static void downTheWholeLane() {
        PawnLane up = Due.lane(SIX + "t011t121t231t341t451");
        PawnLane down = Due.lane(SIX + "t541t431t321t211t101");
        for (int s = 0; s < 6; s++) {
            tellsOf(up, s, 5 - s, 5, (2 << s) - 1);
            tellsOf(down, s, s, 0, 63 & -(1 << s));
        }
        due.told("all hangs on the last", up, up.hangs(), 5, 6);
        due.told("all hangs on the first", down, down.hangs(), 0, 6);
        due.told("no rings up", up, up.rings(), 0, 0);
        due.told("no rings down", down, down.rings(), 0, 0);
    }

    private static void allWithOne() {
        PawnLane x = Due.lane(SIX + "t031t131t231t431t531");
        for (int s = 0; s < 6; s++) {
            tellsOf(x, s, s == 3 ? 0 : 1, 3, s == 3 ? 63 : 1 << s);
        }
        due.told("all hangs on 3", x, x.hangs(), 3, 6);
        due.told("no rings", x, x.rings(), 0, 0);
    }

    private static void ringsOfAllSizes() {
        for (int size = 2; size <= 6; size++) {
            StringBuilder text = new StringBuilder(SIX);
            for (int s = 0; s < size; s++) {
                text.append('t').append(s).append((s + 1) % size).append(1);
            }
            PawnLane x = Due.lane(text.toString());
            int ring = (1 << size) - 1;
            due.told("a ring of " + size, x, x.rings(), 1, ring);
            for (int s = 0; s < 6; s++) {
                tellsOf(x, s, s < size ? NONE : 0, s, s < size ? ring : 1 << s);
            }
            due.told("hangs() of a ring of " + size, x, x.hangs(), 0, size);
            x.give(0, 9);
            due.is("one of it REDEEMED", x.redeem(0), 1);
            due.told("no ring then", x, x.rings(), 0, 0);
            due.told("how deep the next one is then", x, x.deep(1), size - 1, 0);
        }
    }

    private static void intoARing() {
        // 4 and 5 in a ring; 0 in 1, 1 in 2, 2 in 3, 3 in 4
        PawnLane x = Due.lane(SIX + "t011t121t231t341t451t541");
        int[] inside = {1, 3, 7, 15, 63, 63};
        for (int s = 0; s < 6; s++) {
            tellsOf(x, s, NONE, 0, inside[s]);
        }
        due.told("who is in the ring, not who goes into it", x, x.rings(), 1, 48);
        due.told("the first of two that have all", x, x.hangs(), 4, 6);
    }

    private static void twoAndThreeRings() {
        PawnLane two = Due.lane(SIX + "t021t201t131t341t411");
        due.told("two rings", two, two.rings(), 2, 31);
        tellsOf(two, 0, NONE, 0, 5);
        tellsOf(two, 4, NONE, 0, 26);
        tellsOf(two, 5, 0, 5, 32);
        due.told("the larger one", two, two.hangs(), 1, 3);
        PawnLane three = Due.lane(SIX + "t051t501t141t411t231t321");
        due.told("three rings", three, three.rings(), 3, 63);
        int[] inside = {33, 18, 12, 12, 18, 33};
        for (int s = 0; s < 6; s++) {
            tellsOf(three, s, NONE, 0, inside[s]);
        }
        due.told("of three alike the first", three, three.hangs(), 0, 2);
    }

    private static void hangsTheFirst() {
        // 0 alone; 1 has 2; 3 has 4; of as many the first
        PawnLane x = Due.lane("s00s00s00s00s00 t211 t431");
        due.told("two of as many", x, x.hangs(), 1, 2);
        PawnLane y = Due.lane("s00s00s00s00s00s00 t211 t431 t531");
        due.told("one more tells", y, y.hangs(), 3, 3);
    }

    private static void shopRefusals() {
        Supplier<PawnLane> two = () -> Due.lane("s12s34t011");
        for (int i = 0; i < 5; i++) {
            int which = i;
            String[] names = {"deep", "inside", "goods", "worth", "shuts"};
            new Grid(due, names[i], BAD).state("busy", States::busy, RIGHT).state("full", States::full, RIGHT)
                .slot(Grid.right(0, 5).wrong(BAD, -1, 6, MAX, MIN)).check((x, a) -> ofShop(x, which, a[0]));
            new Grid(due, names[i], BAD).state("of two", two, RIGHT)
                .slot(Grid.right(0, 1).wrong(BAD, -1, 2, 5, MAX, MIN)).check((x, a) -> ofShop(x, which, a[0]));
            new Grid(due, names[i], BAD).state("no SHOPS", States::noShops, BAD)
                .slot(Grid.right(-1, 0, 1)).check((x, a) -> ofShop(x, which, a[0]));
        }
    }

    private static int ofShop(PawnLane x, int which, int s) {
        return switch (which) {
            case 0 -> x.deep(s);
            case 1 -> x.inside(s);
            case 2 -> x.goods(s);
            case 3 -> x.worth(s);
            default -> x.shuts(s);
        };
    }

    private static void stateRefusals() {
        twins.refused("no SHOPS: hangs()", States::noShops, PawnLane::hangs, STATE);
        twins.asks("no SHOPS: rings()", States::noShops, PawnLane::rings, 0, 0);
    }

    /** busy(): 0 in 1, 1 in 2, 3 in 0, 4 in 5, 2 in 5; SHILLINGS 5 2 13 3 3 4; DUE 4 7 3 6 5; STOCK 0 0 0 1 4 0. */
    private static void asksAlone() {
        int[] deep = {3, 2, 1, 4, 1, 0};
        int[] inside = {9, 11, 15, 8, 16, 63};
        int[] goods = {1, 1, 1, 1, 4, 5};
        int[] worth = {1000 + 5 + 6 - 4, 1000 + 2 + 4 - 7, 1000 + 13 + 7 - 3, 1000 + 3 + 1 - 6, 1000 + 3 + 4 - 5,
            1000 + 4 + 5 + 3};
        for (int i = 0; i < 6; i++) {
            int s = i;
            twins.asks("deep(" + s + ") asks alone", States::busy, x -> x.deep(s), deep[s], 5);
            twins.still("inside(" + s + ") asks alone", States::busy, x -> x.inside(s), inside[s]);
            twins.still("goods(" + s + ") asks alone", States::busy, x -> x.goods(s), goods[s]);
            twins.still("worth(" + s + ") asks alone", States::busy, x -> x.worth(s), worth[s]);
            twins.still("chalk(" + s + ", 0) asks alone", States::busy, x -> x.chalk(s, 0), s == 3 ? 1 : s == 4 ? 4 : 0);
        }
        twins.still("chalk(5, 6) asks alone", States::busy, x -> x.chalk(5, 6), 2);
        twins.asks("hangs() asks alone", States::busy, PawnLane::hangs, 5, 6);
        twins.asks("rings() asks alone", States::busy, PawnLane::rings, 0, 0);
        Supplier<PawnLane> ring = () -> Due.lane("s01s02s04 t011 t101 t201");
        twins.asks("rings() asks alone: one", ring, PawnLane::rings, 1, 3);
        twins.still("deep() that goes round changes nothing", ring, x -> x.deep(2), NONE);
    }

    // ---- promise 27

    private static void worthOfLeastAndMost() {
        due.is("of nothing", Due.lane("s00s00").worth(0), 1000);
        due.is("of all it has", Due.lane("s99s00").worth(0), 1018);
        due.is("SHILLINGS alone", Due.lane("s70s00").worth(0), 1007);
        due.is("STOCK alone", Due.lane("s06s00").worth(0), 1006);
        due.is("DUE of it alone", Due.lane("s00s00t015").worth(0), 995);
        due.is("DUE to it alone", Due.lane("s00s00t105").worth(0), 1005);
        due.is("both", Due.lane("s12s00t105t013").worth(0), 1000 + 1 + 2 + 5 - 3);
        PawnLane x = Due.lane("v00v00v00v00v00v00 t109t209t309t409t509t019");
        for (int i = 0; i < 40; i++) {
            x.week();
        }
        due.is("the most that is DUE", x.worth(0), 1000 + 5 * 129 - 129);
        due.is("the least", x.worth(2), 1000 - 129);
        due.is("those inside don't count, but what is DUE", x.worth(1), 1000 + 129 - 129);
    }

    // ---- promise 28

    private static void chalkLooks() {
        // each in the next: a look sees one SHOP further down
        PawnLane x = Due.lane("s09s08s08s08s08s08 t011t121t231t341t451");
        int[][] want = {
            {9, 9, 9, 9, 9, 9, 9},
            {8, 12, 12, 12, 12, 12, 12},
            {8, 12, 14, 14, 14, 14, 14},
            {8, 12, 14, 15, 15, 15, 15},
            {8, 12, 14, 15, 15, 15, 15},
            {8, 12, 14, 15, 15, 15, 15}};
        for (int s = 0; s < 6; s++) {
            for (int n = 0; n <= 6; n++) {
                due.is("chalk(" + s + ", " + n + ")", x.chalk(s, n), want[s][n]);
            }
        }
        // in a ring of two the STOCK comes back: 9, 9 + 4, 9 + 6, 9 + 7, 9 + 8
        PawnLane ring = Due.lane("s09s09 t011 t101");
        int[] round = {9, 13, 15, 16, 17, 17, 17};
        for (int n = 0; n <= 6; n++) {
            due.is("chalk(0, " + n + ") of a ring", ring.chalk(0, n), round[n]);
        }
        // 0 in 1 and 1 in 2 and 2 in 0: only what is by one look less
        PawnLane three = Due.lane("s08s00s00 t011 t121 t201");
        int[][] goes = {{8, 8, 8, 9, 9, 9, 9}, {0, 4, 4, 4, 4, 4, 4}, {0, 0, 2, 2, 2, 2, 2}};
        for (int s = 0; s < 3; s++) {
            for (int n = 0; n <= 6; n++) {
                due.is("chalk(" + s + ", " + n + ") of a ring of three", three.chalk(s, n), goes[s][n]);
            }
        }
        // the sixth look still adds
        PawnLane six = Due.lane("s09s09s09s09s09s09 t101t201t301t401t501t051");
        due.is("chalk(0, 0) of five", six.chalk(0, 0), 9);
        due.is("chalk(0, 1) of five", six.chalk(0, 1), 9 + 5 * 4);
        int zero = 9;
        int five = 9;
        for (int n = 1; n <= 6; n++) {
            int next = 9 + 4 * 4 + five / 2;
            five = 9 + zero / 2;
            zero = next;
            due.is("chalk(0, " + n + ") of five, one in a ring", six.chalk(0, n), zero);
            due.is("chalk(5, " + n + ") of five, one in a ring", six.chalk(5, n), five);
        }
    }

    private static void chalkHalves() {
        due.is("half of 0", Due.lane("s00s00t011").chalk(1, 1), 0);
        due.is("half of 1, cut", Due.lane("s01s00t011").chalk(1, 1), 0);
        due.is("half of 2", Due.lane("s02s00t011").chalk(1, 1), 1);
        due.is("half of 9, cut", Due.lane("s09s00t011").chalk(1, 1), 4);
        due.is("each cut, not together", Due.lane("s01s01s00t021t121").chalk(2, 1), 0);
        due.is("each of five cut", Due.lane("s03s03s03s03s03s00t051t151t251t351t451").chalk(5, 1), 5);
    }

    private static void chalkRefusals() {
        new Grid(due, "chalk", BAD).state("busy", States::busy, RIGHT).state("full", States::full, RIGHT)
            .slot(Grid.right(0, 5).wrong(BAD, -1, 6, MAX, MIN)).slot(Grid.right(0, 6).wrong(BAD, -1, 7, MAX, MIN))
            .check((x, a) -> x.chalk(a[0], a[1]));
        new Grid(due, "chalk", BAD).state("no SHOPS", States::noShops, BAD)
            .slot(Grid.right(-1, 0, 1)).slot(Grid.right(-1, 0, 6)).check((x, a) -> x.chalk(a[0], a[1]));
    }
}
