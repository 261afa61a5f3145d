/** Promises 42 to 48: asked, upper, lower, count, finding, findings, digest. */
public final class ToldTest {
    private static final Due due = new Due("ToldTest");

    public static void main(String[] args) {
        before();
        asked();
        chances();
        count();
        findings();
        digest();
        due.end();
    }

    private static void before() {
        PawnLane x = new PawnLane();
        due.is("asked()", x.asked(), 0);
        due.is("upper()", x.upper(), 0);
        due.is("lower()", x.lower(), 1);
        due.is("finding()", x.finding(), 0);
        for (int f = 1; f <= 5; f++) {
            due.is("findings(" + f + ")", x.findings(f), 0);
        }
    }

    private static void asked() {
        PawnLane x = Due.lane("s50s00s00 t015");
        Due.lay(x, 0, 6, 8);
        due.told("lay", x, x.lay(0, 0, 4), 1, 6);
        due.told("at", x, x.at(0, 1), 1, 8);
        due.told("mean", x, x.mean(0), 1, 6);
        due.told("shop", x, x.shop(0, 1), 1, 5);
        due.told("deep", x, x.deep(0), 1, 1);
        due.told("hangs", x, x.hangs(), 1, 2);
        due.told("most", x, x.most(), 1, 1);
        due.told("rings", x, x.rings(), 0, 0);
        due.told("least", x, x.least(), 0, 0);
        Due.lay(x, 1, 0);
        due.told("run", x, x.run(1), 1, 0);
        x.at(0, 1);
        // none of these tells by asked()
        x.order(2);
        x.free(0, 2);
        x.ways();
        x.through(1);
        x.odds(3);
        x.can();
        x.till();
        x.mark(0, 0);
        x.worth(0);
        x.inside(0);
        x.goods(0);
        x.chalk(0, 1);
        x.shuts(0);
        x.missing(1);
        x.digest();
        x.count(1);
        x.week();
        x.lots(3, 3);
        due.is("asked() stays", x.asked(), 8);
    }

    private static void chances() {
        PawnLane x = Due.lane("s50s00s00 t015");
        due.chance("odds(3)", x, x.odds(3), 1, 1);
        due.chance("ways()", x, x.ways(), 1, 1);
        PawnLane y = Due.lane("s00s00 t015");
        due.chance("odds(3)", y, y.odds(3), 1, 4);
        y.odds(13);
        y.through(2);
        y.least();
        due.is("upper() stays", y.upper(), 1);
        due.is("lower() stays", y.lower(), 4);
        due.chance("ways()", y, y.ways(), 0, 1);
    }

    private static void count() {
        PawnLane x = Due.lane("s12h34v56u78 t019 t125 t201");
        int[] want = {4, 3, 0, 16, 15, 2, 0, 1, 0};
        for (int what = 0; what <= 8; what++) {
            due.is("count(" + what + ")", x.count(what), want[what]);
        }
        x.week();
        x.keep(0);
        x.keep(1);
        x.row(0, 0);
        x.row(5, 3);
        x.text(0, 0);
        int[] then = {4, 3, 1, 16, 15 + 2 + 3 + 1, 2, 2, 2, 2};
        for (int what = 0; what <= 8; what++) {
            due.is("count(" + what + ") then", x.count(what), then[what]);
        }
        int[] bad = {-1, 9, Integer.MAX_VALUE, Integer.MIN_VALUE};
        for (int what : bad) {
            due.is("count(" + what + ")", x.count(what), -1);
        }
    }

    private static void findings() {
        PawnLane x = new PawnLane();
        x.tear(0);
        x.tear(0);
        x.row(0, 0);
        x.at(0, 0);
        x.mean(0);
        x.mean(0);
        x.mean(0);
        x.row(0, -1);
        due.is("finding()", x.finding(), 5);
        due.is("NOTHING", x.findings(1), 2);
        due.is("BEYOND", x.findings(2), 1);
        due.is("UNLIKE", x.findings(3), 0);
        due.is("NOUGHT", x.findings(4), 3);
        due.is("SIZE", x.findings(5), 1);
        int[] bad = {0, -1, 6, Integer.MAX_VALUE, Integer.MIN_VALUE};
        for (int f : bad) {
            due.is("findings(" + f + ")", x.findings(f), -1);
        }
        due.is("BAD is no FINDING", x.finding(), 5);
    }

    private static long fold(long... values) {
        long h = 17;
        for (long v : values) {
            h = 31 * h + v;
        }
        return h;
    }

    private static void digest() {
        PawnLane x = new PawnLane();
        due.is("digest() of a new one", x.digest(),
            fold(0, 0, 0, 0, 0, 0, 0, 0, 0, -1, -1, -1, -1, -1, -1, -1, -1, -1, -1, -1, -1, -1));
        Due.write(x, 3, "v34h12t015");
        x.lane(3);
        x.text(3, 2);
        x.put(3, 1, 200);
        x.week();
        x.keep(2);
        Due.lay(x, 1, -5, Integer.MIN_VALUE);
        x.row(4, 0);
        due.is("digest()", x.digest(),
            fold(2, 1, 1, 4, 7, 2, 2, 1, 1,
                5, 3, 4, 1, 7, 1, 0, 2, 1, 2, -9, 0, 0, 1,
                -1, -1, 1,
                -1, 2, -5, Integer.MIN_VALUE, -1, -1, 0, -1,
                -1, -1, -1, 2, 32, -56));
    }
}
