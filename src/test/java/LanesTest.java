/** Promises 10 to 14: faults, lanes, shops, marks, stock. */
public final class LanesTest {
    private static final int NONE = PawnLane.NONE;
    private static final Due due = new Due("LanesTest");

    public static void main(String[] args) {
        fault();
        lane();
        shop();
        dueByKinds();
        mark();
        stock();
        due.end();
    }

    private static void faultIs(String text, int want) {
        PawnLane x = new PawnLane();
        Due.write(x, 2, text);
        due.is("fault of '" + text + "'", x.fault(2), want);
        due.is("lane of '" + text + "'", x.lane(2), want == NONE ? x.count(0) : PawnLane.STATE);
        due.is("there are SHOPS by '" + text + "'", x.count(0) > 0 ? 1 : 0, want == NONE ? 1 : 0);
    }

    private static void fault() {
        faultIs("", 0);
        faultIs("   ", 3);
        faultIs("s00s00", NONE);
        faultIs("  s00   s99  ", NONE);
        faultIs("s00u11h22w33a44v55", NONE);
        faultIs("s00u11h22w33a44v55s00", 18);
        faultIs("s00u11h22w33a44v55 t019t129t239t349t459t509", NONE);
        faultIs("s00 u11 h22 w33 a44 v55t019t129t239t349t459t509 ", NONE);
        faultIs("s00", 3);
        faultIs("s00 ", 4);
        faultIs("s0", 2);
        faultIs("s", 1);
        faultIs("s00s", 4);
        faultIs("s00s0", 5);
        faultIs("s 00s00", 1);
        faultIs("s0 0s00", 2);
        faultIs("s00S00", 3);
        faultIs("s00000", 3);
        faultIs("sa0", 1);
        faultIs("s0:", 2);
        faultIs("s0/", 2);
        faultIs("t011", 0);
        faultIs("s00t011", 3);
        faultIs("s00s00t", 7);
        faultIs("s00s00t0", 8);
        faultIs("s00s00t01", 9);
        faultIs("s00s00t011", NONE);
        faultIs("s00s00 t011  ", NONE);
        faultIs("s00s00t 011", 7);
        faultIs("s00s00t0 11", 8);
        faultIs("s00s00t01 1", 9);
        faultIs("s00s00t211", 7);
        faultIs("s00s00t021", 8);
        faultIs("s00s00t001", 8);
        faultIs("s00s00t010", 9);
        faultIs("s00s00t01a", 9);
        faultIs("s00s00tx11", 7);
        faultIs("s00s00t011t012", 11);
        faultIs("s00s00t011t102", NONE);
        faultIs("s00s00t011s00", 10);
        faultIs("s00s00t011x", 10);
        faultIs("s00s00x", 6);
        faultIs("s00s00\t", 6);
        faultIs("s00s00" + (char) 160, 6);
        faultIs((char) (256 + 115) + "00s00", NONE);
        PawnLane x = new PawnLane();
        due.finds("fault(0)", x, x.fault(0), 1);
        due.is("fault(-1)", x.fault(-1), -1);
        due.is("fault(4)", x.fault(4), -1);
    }

    private static void lane() {
        PawnLane x = Due.lane("s11s22s33t012");
        due.is("count(0)", x.count(0), 3);
        x.give(0, 5);
        x.week();
        x.keep(0);
        x.keep(1);
        x.keep(2);
        Due.write(x, 0, "s00s00 x");
        long before = x.digest();
        due.is("lane of a FAULT", x.lane(0), -4);
        due.is("nothing has changed", x.digest(), before);
        due.finds("lane(1)", x, x.lane(1), 1);
        due.is("lane(4)", x.lane(4), -1);
        due.is("lane(-1)", x.lane(-1), -1);
        due.is("nothing has changed", x.digest(), before);
        due.is("lane(3) anew", x.lane(3), 3);
        due.is("no DEEDS", x.count(2), 0);
        due.is("kept LANES go", x.count(8), 0);
        due.told("SHILLINGS as told", x, x.shop(0, 1), 1, 1);
        due.told("0 WEEKS", x, x.shop(0, 5), 1, 0);
        Due.write(x, 0, "v98a76");
        due.is("another LANE", x.lane(0), 2);
        due.told("its KIND", x, x.shop(0, 0), 1, 5);
        due.told("IN PAWN no more", x, x.shop(0, 3), 1, NONE);
        due.is("a SHOP no more", x.shop(2, 0), -1);
    }

    private static void shop() {
        PawnLane x = Due.lane("s12u34h56w78a90v19 t015 t214 t503");
        int[][] want = {
            {0, 1, 2, 1, 5, 0, 32}, {1, 3, 4, NONE, 0, 0, 5}, {2, 5, 6, 1, 4, 0, 0},
            {3, 7, 8, NONE, 0, 0, 0}, {4, 9, 0, NONE, 0, 0, 0}, {5, 1, 9, 0, 3, 0, 0}};
        for (int s = 0; s < 6; s++) {
            for (int what = 0; what < 7; what++) {
                due.told("shop(" + s + ", " + what + ")", x, x.shop(s, what), 1, want[s][what]);
            }
        }
        x.week();
        x.week();
        due.told("WEEKS of a TICKET", x, x.shop(5, 5), 1, 2);
        due.told("WEEKS of none", x, x.shop(1, 5), 1, 0);
        due.told("DUE to a SHOP", x, x.shop(5, 4), 1, 5);
        due.is("shop(6, 0)", x.shop(6, 0), -1);
        due.is("shop(-1, 0)", x.shop(-1, 0), -1);
        due.is("shop(0, 7)", x.shop(0, 7), -1);
        due.is("shop(0, -1)", x.shop(0, -1), -1);
        due.is("asked() stays", x.asked(), 5);
    }

    private static void dueByKinds() {
        String letters = "suhwav";
        for (int weeks = 0; weeks <= 12; weeks++) {
            int[] want = {4 + weeks, 4, 4 + 2 * weeks, 4 + weeks / 2, weeks < 3 ? 4 - weeks : 1, 4 + 3 * weeks};
            for (int kind = 0; kind < 6; kind++) {
                PawnLane x = Due.lane("v00" + letters.charAt(kind) + "00t014");
                for (int week = 1; week <= weeks; week++) {
                    x.week();
                }
                due.told("DUE with " + kind + " in " + weeks, x, x.shop(0, 4), 1, want[kind]);
            }
        }
    }

    private static void mark() {
        PawnLane x = Due.lane("u00a00h00v00w00s91 t014 t107 t236 t329 t455 t542");
        due.is("an UNCLE", x.mark(0, 1), 7);
        due.is("an AUNT as an UNCLE", x.mark(1, 1), 4);
        due.is("a HAWK", x.mark(2, 2), 2);
        due.is("a VULTURE as a HAWK", x.mark(3, 2), 3);
        due.is("a WIDOW", x.mark(4, 3), 1);
        due.is("an AUNT", x.mark(1, 4), 0);
        due.is("a VULTURE", x.mark(3, 5), 0);
        x.week();
        x.week();
        due.is("LOANS don't grow", x.mark(1, 1), 4);
        due.is("less with an AUNT", x.mark(1, 4), 2);
        x.give(2, 12);
        due.is("one that can be REDEEMED", x.mark(3, 5), 1);
        due.finds("mark(5, 1)", x, x.mark(5, 1), 3);
        due.finds("an UNCLE is no AUNT", x, x.mark(0, 4), 3);
        due.finds("a HAWK is no VULTURE", x, x.mark(2, 5), 3);
        due.finds("a HAWK is no UNCLE", x, x.mark(2, 1), 3);
        due.finds("a VULTURE is no WIDOW", x, x.mark(3, 3), 3);
        int[] bad = {0, -1, 6, Integer.MAX_VALUE, Integer.MIN_VALUE};
        for (int kind : bad) {
            due.is("mark(0, " + kind + ")", x.mark(0, kind), -1);
        }
        due.is("mark(6, 1)", x.mark(6, 1), -1);
        due.is("mark(-1, 1)", x.mark(-1, 1), -1);
        PawnLane v = Due.lane("s90v00s90 t011 t211");
        due.is("a VULTURE of two that can be", v.mark(1, 5), 2);
        PawnLane y = Due.lane("h00s00s00w00 t101 t202 t303");
        due.is("a HAWK of three", y.mark(0, 2), 6);
        PawnLane z = Due.lane("w00s00s00a00 t101 t202 t031 t307");
        due.is("a WIDOW of three", z.mark(0, 3), 3);
    }

    private static void stock() {
        PawnLane x = Due.lane("s17s25t011");
        due.is("stock(0, 9)", x.stock(0, 9), 7);
        due.is("stock(0, 0)", x.stock(0, 0), 9);
        due.is("stock(0, 10)", x.stock(0, 10), -1);
        due.is("stock(0, -1)", x.stock(0, -1), -1);
        due.is("stock(2, 1)", x.stock(2, 1), -1);
        due.told("its STOCK", x, x.shop(0, 2), 1, 0);
        x.week();
        due.is("STATE by DEEDS", x.stock(0, 1), -4);
        due.is("BAD ahead of STATE", x.stock(0, 10), -1);
        x.undo(0);
        due.is("DEEDS undone", x.stock(0, 3), 0);
        x.keep(0);
        x.stock(0, 4);
        x.on(0);
        due.told("STOCK as kept", x, x.shop(0, 2), 1, 3);
    }
}
