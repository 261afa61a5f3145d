/** Promises 22 to 28: deep, inside, rings, goods, hangs, worth, chalk. */
public final class WhoseTest {
    private static final int NONE = PawnLane.NONE;
    private static final Due due = new Due("WhoseTest");

    public static void main(String[] args) {
        chain();
        rings();
        worth();
        chalk();
        wrongNumbers();
        due.end();
    }

    private static void chain() {
        // 3 in 1, 1 in 4, 4 in 0; 2 in 0; 5 alone
        PawnLane x = Due.lane("s01s02s03s04s05s06 t311 t141 t401 t201");
        int[] deep = {0, 2, 1, 3, 1, 0};
        int[] end = {0, 0, 0, 0, 0, 5};
        int[] inside = {31, 10, 4, 8, 26, 32};
        int[] goods = {15, 6, 3, 4, 11, 6};
        for (int s = 0; s < 6; s++) {
            due.told("deep(" + s + ")", x, x.deep(s), deep[s], end[s]);
            due.is("inside(" + s + ")", x.inside(s), inside[s]);
            due.is("goods(" + s + ")", x.goods(s), goods[s]);
        }
        due.told("rings() of none", x, x.rings(), 0, 0);
        due.told("hangs()", x, x.hangs(), 0, 5);
        PawnLane y = Due.lane("s01s02s03 t011 t121");
        due.told("hangs() at the last", y, y.hangs(), 2, 3);
        PawnLane z = Due.lane("s01s02s03s04 t011 t321");
        due.told("hangs(): the first of as many", z, z.hangs(), 1, 2);
    }

    private static void rings() {
        // 0 and 2 in one ring, 1 3 4 in another, 5 in 4
        PawnLane x = Due.lane("s01s02s03s04s05s06 t021 t201 t131 t341 t411 t541");
        due.told("rings()", x, x.rings(), 2, 31);
        x.shop(0, 1);
        for (int s = 0; s < 6; s++) {
            due.told("deep(" + s + ") goes round", x, x.deep(s), NONE, 0);
        }
        due.is("inside(0)", x.inside(0), 5);
        due.is("inside(1)", x.inside(1), 58);
        due.is("inside(5)", x.inside(5), 32);
        due.is("goods(3)", x.goods(3), 17);
        due.told("hangs()", x, x.hangs(), 1, 4);
        PawnLane y = Due.lane("s00s00s00s00s00s00 t011 t101 t231 t321 t451 t541");
        due.told("three rings", y, y.rings(), 3, 63);
        PawnLane z = Due.lane("s00s00s00s00s00s00 t051 t541 t431 t321 t211 t101");
        due.told("one ring of all", z, z.rings(), 1, 63);
        due.told("hangs() of all alike", z, z.hangs(), 0, 6);
    }

    private static void worth() {
        PawnLane x = Due.lane("s12h34v56 t019 t207 t125");
        due.is("worth(0)", x.worth(0), 1000 + 1 + 2 + 7 - 9);
        due.is("worth(1)", x.worth(1), 1000 + 3 + 4 + 9 - 5);
        due.is("worth(2)", x.worth(2), 1000 + 5 + 6 + 5 - 7);
        x.week();
        due.is("worth(0) in a WEEK", x.worth(0), 1000 + 1 + 2 + 8 - 11);
        PawnLane y = Due.lane("s00v00 t019");
        for (int i = 0; i < 40; i++) {
            y.week();
        }
        due.is("less than nothing", y.worth(0), 1000 - 129);
    }

    private static void chalk() {
        // 1 and 2 in 0, 3 in 2; 4 and 5 in a ring
        PawnLane x = Due.lane("s01s07s05s09s07s09 t101 t201 t321 t451 t541");
        due.is("chalk(0, 0)", x.chalk(0, 0), 1);
        due.is("chalk(0, 1): each cut", x.chalk(0, 1), 1 + 3 + 2);
        due.is("chalk(0, 2)", x.chalk(0, 2), 1 + 3 + (5 + 4) / 2);
        due.is("chalk(0, 6)", x.chalk(0, 6), 1 + 3 + 4);
        due.is("chalk(3, 6)", x.chalk(3, 6), 9);
        PawnLane y = Due.lane("s08s01 t011");
        due.is("the first SHOP in another", y.chalk(1, 1), 5);
        int[] four = {7, 11, 13, 14, 14, 15, 15};
        int[] five = {9, 12, 14, 15, 16, 16, 16};
        for (int n = 0; n <= 6; n++) {
            due.is("chalk(4, " + n + ")", x.chalk(4, n), four[n]);
            due.is("chalk(5, " + n + ")", x.chalk(5, n), five[n]);
        }
        due.is("chalk(0, 7)", x.chalk(0, 7), -1);
        due.is("chalk(0, -1)", x.chalk(0, -1), -1);
        due.is("chalk(6, 0)", x.chalk(6, 0), -1);
    }

    private static void wrongNumbers() {
        PawnLane x = Due.lane("s01s02 t011");
        PawnLane none = new PawnLane();
        int[] bad = {-1, 2, 6, Integer.MAX_VALUE, Integer.MIN_VALUE};
        for (int s : bad) {
            due.is("deep(" + s + ")", x.deep(s), -1);
            due.is("inside(" + s + ")", x.inside(s), -1);
            due.is("goods(" + s + ")", x.goods(s), -1);
            due.is("worth(" + s + ")", x.worth(s), -1);
            due.is("chalk(" + s + ", 0)", x.chalk(s, 0), -1);
        }
        due.is("no SHOPS: deep", none.deep(0), -1);
        due.is("no SHOPS: inside", none.inside(0), -1);
        due.is("no SHOPS: goods", none.goods(0), -1);
        due.is("no SHOPS: hangs", none.hangs(), -4);
        due.is("no SHOPS: worth", none.worth(0), -1);
        due.is("no SHOPS: chalk", none.chalk(0, 0), -1);
        due.told("no SHOPS: rings", none, none.rings(), 0, 0);
    }
}
