import java.util.ArrayList;
import java.util.LinkedHashMap;
import java.util.List;
import java.util.Map;
import java.util.function.ToIntFunction;

/** The edges of promises 42 to 48: asked, upper, lower, count, finding, findings, digest. */
public final class ToldEdgeTest {
    private static final int BAD = Grid.BAD, MAX = Grid.MAX, MIN = Grid.MIN, NONE = PawnLane.NONE, RIGHT = Grid.RIGHT;
    private static final int NOTHING = Grid.NOTHING, BEYOND = Grid.BEYOND, UNLIKE = Grid.UNLIKE;
    private static final int NOUGHT = Grid.NOUGHT, SIZE = Grid.SIZE;
    private static final int MISSING = -1;
    private static final String RING = "s90s90s90s90s90s90 t011t121t231t341t451t501";
    private static final Due due = new Due("ToldEdgeTest");
    private static final Twins twins = new Twins(due);

    public static void main(String[] args) {
        askedByTheseAlone();
        chancesByTheseAlone();
        askedStays();
        chanceStays();
        lowestTerms();
        countOfNone();
        countOfMost();
        countRefusals();
        findingsOfEachCall();
        findingStays();
        findingsRefusals();
        tellsAskAlone();
        digestOfNone();
        digestOfMost();
        digestTellsEachPart();
        due.end();
    }

    /** Calls that are answered in busy() and tell neither by asked() nor by upper(). */
    private static Map<String, ToIntFunction<PawnLane>> quietCalls() {
        Map<String, ToIntFunction<PawnLane>> calls = new LinkedHashMap<>();
        calls.put("row", x -> x.row(0, 3));
        calls.put("tear", x -> x.tear(0));
        calls.put("copy", x -> x.copy(0, 0, 4, 0, 2));
        calls.put("text", x -> x.text(1, 9));
        calls.put("put", x -> x.put(1, 0, 65));
        calls.put("fault", x -> x.fault(1));
        calls.put("lane", x -> x.lane(0));
        calls.put("mark", x -> x.mark(1, 1));
        calls.put("redeem", x -> x.redeem(States.CAN));
        calls.put("pawn", x -> x.pawn(States.OUT, 0, 1));
        calls.put("week", PawnLane::week);
        calls.put("give", x -> x.give(0, 5));
        calls.put("undo", x -> x.undo(1));
        calls.put("keep", x -> x.keep(1));
        calls.put("on", x -> x.on(0));
        calls.put("inside", x -> x.inside(2));
        calls.put("goods", x -> x.goods(2));
        calls.put("worth", x -> x.worth(2));
        calls.put("chalk", x -> x.chalk(2, 3));
        calls.put("can", PawnLane::can);
        calls.put("order", x -> x.order(0));
        calls.put("free", x -> x.free(0, 0));
        calls.put("till", PawnLane::till);
        calls.put("shuts", x -> x.shuts(2));
        calls.put("missing", x -> x.missing(States.ORDER_ROW));
        calls.put("lots", x -> x.lots(9, 9));
        calls.put("asked", PawnLane::asked);
        calls.put("upper", x -> (int) x.upper());
        calls.put("lower", x -> (int) x.lower());
        calls.put("count", x -> x.count(3));
        calls.put("finding", PawnLane::finding);
        calls.put("findings", x -> x.findings(1));
        calls.put("digest", x -> (int) (x.digest() & 1));
        return calls;
    }

    private static Map<String, ToIntFunction<PawnLane>> askingCalls() {
        Map<String, ToIntFunction<PawnLane>> calls = new LinkedHashMap<>();
        calls.put("lay", x -> x.lay(0, 0, 1));
        calls.put("at", x -> x.at(0, 1));
        calls.put("mean", x -> x.mean(0));
        calls.put("shop", x -> x.shop(2, 1));
        calls.put("deep", x -> x.deep(0));
        calls.put("rings", PawnLane::rings);
        calls.put("hangs", PawnLane::hangs);
        calls.put("most", PawnLane::most);
        calls.put("run", x -> x.run(States.ORDER_ROW));
        return calls;
    }

    private static Map<String, ToIntFunction<PawnLane>> chanceCalls() {
        Map<String, ToIntFunction<PawnLane>> calls = new LinkedHashMap<>();
        calls.put("ways", PawnLane::ways);
        calls.put("through", x -> x.through(1));
        calls.put("odds", x -> x.odds(6));
        return calls;
    }

    // ---- promises 42 to 44

    private static void askedByTheseAlone() {
        int[] want = {11, -12, 2, 13, 5, 0, 6, 5, 1};
        int i = 0;
        for (Map.Entry<String, ToIntFunction<PawnLane>> call : askingCalls().entrySet()) {
            PawnLane x = States.busy();
            due.holds(call.getKey() + " is answered", call.getValue().applyAsInt(x) >= 0);
            due.is(call.getKey() + " is told by asked()", x.asked(), want[i]);
            due.is(call.getKey() + ": asked() tells it again", x.asked(), want[i]);
            due.is(call.getKey() + ": upper() stays", x.upper(), 1);
            due.is(call.getKey() + ": lower() stays", x.lower(), 64);
            i++;
        }
        PawnLane y = Due.lane("s00s00s00 t121");
        due.told("least is told by asked()", y, y.least(), 1, 1);
        due.is("least: upper() stays", y.upper(), 0);
    }

    private static void chancesByTheseAlone() {
        long[][] want = {{0, 1}, {0, 1}, {1, 8}};
        int i = 0;
        for (Map.Entry<String, ToIntFunction<PawnLane>> call : chanceCalls().entrySet()) {
            PawnLane x = States.busy();
            due.is(call.getKey(), call.getValue().applyAsInt(x), 1);
            due.is(call.getKey() + ": upper()", x.upper(), want[i][0]);
            due.is(call.getKey() + ": lower()", x.lower(), want[i][1]);
            due.is(call.getKey() + ": asked() stays", x.asked(), 7);
            i++;
        }
    }

    private static void askedStays() {
        for (Map.Entry<String, ToIntFunction<PawnLane>> call : quietCalls().entrySet()) {
            PawnLane x = States.busy();
            int answer = call.getValue().applyAsInt(x);
            due.holds(call.getKey() + " is answered, not " + answer, answer >= 0 || answer == NONE);
            due.is(call.getKey() + ": asked() stays", x.asked(), 7);
        }
        PawnLane x = Due.lane("s00s00 t011 t101");
        x.shop(1, 3);
        due.told("deep() of NONE tells nothing", x, x.deep(0), NONE, 0);
        x.shop(0, 3);
        due.told("deep() of NONE tells nothing", x, x.deep(0), NONE, 1);
        PawnLane y = Due.lane("s00s00s00 t021 t121");
        y.shop(0, 3);
        due.told("least() of NONE tells nothing", y, y.least(), NONE, 2);
    }

    private static void chanceStays() {
        for (Map.Entry<String, ToIntFunction<PawnLane>> call : quietCalls().entrySet()) {
            PawnLane x = States.busy();
            call.getValue().applyAsInt(x);
            due.is(call.getKey() + ": upper() stays", x.upper(), 1);
            due.is(call.getKey() + ": lower() stays", x.lower(), 64);
        }
    }

    private static void lowestTerms() {
        PawnLane x = Due.lane("s00s00s00 t021");
        int[][] want = {{0, 1}, {1, 12}, {1, 6}, {1, 4}, {1, 3}, {5, 12}, {1, 2}, {7, 12}, {2, 3}, {3, 4}, {5, 6},
            {11, 12}, {1, 1}};
        for (int p = 12; p >= 0; p--) {
            due.chance("odds(" + p + ")", x, x.odds(p), want[p][0], want[p][1]);
        }
        due.chance("0 by 1 behind a chance", x, x.ways(), 0, 1);
        PawnLane y = Due.lane(RING);
        due.chance("a number by 1", y, y.ways(), 720, 1);
        due.chance("the largest lower number", x = six(), x.odds(1), 1, 2985984);
        due.chance("a large upper number", x, x.odds(11), 1771561, 2985984);
    }

    private static PawnLane six() {
        return Due.lane("s00s00s00s00s00s00 t011t121t231t341t451t501");
    }

    // ---- promise 45

    private static void countsAre(String what, PawnLane x, int... want) {
        for (int i = 0; i < want.length; i++) {
            due.is(what + ": count(" + i + ")", x.count(i), want[i]);
        }
    }

    private static void countOfNone() {
        countsAre("new", new PawnLane(), 0, 0, 0, 0, 0, 0, 0, 0, 0);
        countsAre("a bare LANE", Due.lane("s00s00"), 2, 0, 0, 0, 0, 0, 0, 1, 0);
        PawnLane x = new PawnLane();
        x.row(3, 0);
        x.text(2, 0);
        countsAre("a ROW and a TEXT of none are there", x, 0, 0, 0, 0, 0, 0, 1, 1, 0);
        countsAre("busy", States.busy(), 6, 5, 4, 30, 25, 2, 5, 3, 2);
    }

    private static PawnLane most() {
        PawnLane x = Due.lane("v99v99v99h99h99h99 t019t129t209t309t409t509");
        for (int r = 0; r < 6; r++) {
            x.row(r, 40);
            x.lay(r, 39, MIN + r);
        }
        for (int t = 0; t < 3; t++) {
            x.text(t, 60);
            x.put(t, 59, 128 + t);
        }
        for (int i = 0; i < 40; i++) {
            x.week();
        }
        for (int k = 0; k < 3; k++) {
            x.keep(k);
        }
        return x;
    }

    private static void countOfMost() {
        countsAre("all there may be", most(), 6, 6, 40, 54, 6 * 129, 6, 6, 4, 3);
        PawnLane x = most();
        for (int r = 0; r < 6; r++) {
            x.tear(r);
            due.is("a ROW less", x.count(6), 5 - r);
        }
        String letters = "suhwav";
        for (int kind = 0; kind < 6; kind++) {
            boolean hawk = kind == 2 || kind == 5;
            due.is("HAWKS of KIND " + kind, Due.lane(letters.charAt(kind) + "00s00").count(5), hawk ? 1 : 0);
        }
    }

    private static void countRefusals() {
        new Grid(due, "count", BAD).state("busy", States::busy, RIGHT).state("new", States::fresh, RIGHT)
            .slot(Grid.right(0, 8).wrong(BAD, -1, 9, MAX, MIN)).check((x, a) -> x.count(a[0]));
    }

    // ---- promises 46, 47

    private static void findingsOfEachCall() {
        List<ToIntFunction<PawnLane>> calls = new ArrayList<>();
        List<Integer> found = new ArrayList<>();
        finds(calls, found, NOTHING, x -> x.lay(3, 0, 1), x -> x.at(3, 0), x -> x.tear(3), x -> x.copy(3, 0, 0, 0, 0),
            x -> x.mean(3), x -> x.put(2, 0, 1), x -> x.fault(2), x -> x.lane(2), x -> x.on(1), x -> x.run(3),
            x -> x.missing(3));
        finds(calls, found, BEYOND, x -> x.lay(0, 5, 1), x -> x.at(0, 5), x -> x.copy(0, 5, 0, 0, 1),
            x -> x.put(1, 6, 1));
        finds(calls, found, UNLIKE, x -> x.mark(0, 1), x -> x.run(0), x -> x.missing(0));
        finds(calls, found, NOUGHT, x -> x.mean(2));
        finds(calls, found, SIZE, x -> x.row(0, -1), x -> x.text(0, -1), x -> x.copy(0, 0, 0, 0, -1), x -> x.run(4),
            x -> x.missing(4), x -> x.missing(2));
        PawnLane x = States.busy();
        int[] times = {0, 1, 2, 0, 4, 5};
        for (int i = 0; i < calls.size(); i++) {
            int f = found.get(i);
            times[f]++;
            due.finds("FINDING " + f + " of call " + i, x, calls.get(i).applyAsInt(x), f);
            for (int g = 1; g <= 5; g++) {
                due.is("findings(" + g + ") behind call " + i, x.findings(g), times[g]);
            }
        }
    }

    @SafeVarargs
    private static void finds(List<ToIntFunction<PawnLane>> calls, List<Integer> found, int finding,
            ToIntFunction<PawnLane>... these) {
        for (ToIntFunction<PawnLane> call : these) {
            calls.add(call);
            found.add(finding);
        }
    }

    private static void findingStays() {
        for (Map.Entry<String, ToIntFunction<PawnLane>> call : quietCalls().entrySet()) {
            stays(call.getKey(), call.getValue());
        }
        for (Map.Entry<String, ToIntFunction<PawnLane>> call : askingCalls().entrySet()) {
            stays(call.getKey(), call.getValue());
        }
        for (Map.Entry<String, ToIntFunction<PawnLane>> call : chanceCalls().entrySet()) {
            stays(call.getKey(), call.getValue());
        }
        stays("BAD", x -> x.row(6, 0));
        stays("STATE", x -> x.redeem(States.OUT));
        stays("NONE", PawnLane::least);
    }

    private static void stays(String what, ToIntFunction<PawnLane> call) {
        PawnLane x = States.busy();
        call.applyAsInt(x);
        due.is(what + ": finding() stays", x.finding(), NOUGHT);
        int[] times = {1, 2, 0, 4, 5};
        for (int f = 1; f <= 5; f++) {
            due.is(what + ": findings(" + f + ") stay", x.findings(f), times[f - 1]);
        }
    }

    private static void findingsRefusals() {
        new Grid(due, "findings", BAD).state("busy", States::busy, RIGHT).state("new", States::fresh, RIGHT)
            .slot(Grid.right(1, 2, 3, 4, 5).wrong(BAD, 0, -1, 6, MAX, MIN)).check((x, a) -> x.findings(a[0]));
        PawnLane x = new PawnLane();
        for (int i = 1; i <= 500; i++) {
            x.tear(0);
        }
        due.is("500 times", x.findings(NOTHING), 500);
        due.is("and no other", x.findings(BEYOND), 0);
    }

    private static void tellsAskAlone() {
        twins.still("asked()", States::busy, PawnLane::asked, 7);
        twins.still("upper()", States::busy, x -> (int) x.upper(), 1);
        twins.still("lower()", States::busy, x -> (int) x.lower(), 64);
        twins.still("finding()", States::busy, PawnLane::finding, NOUGHT);
        twins.still("findings(5)", States::busy, x -> x.findings(5), 5);
        twins.still("count(3)", States::busy, x -> x.count(3), 30);
        twins.still("digest()", States::busy, x -> x.digest() == States.busy().digest() ? 1 : 0, 1);
    }

    // ---- promise 48

    private static long fold(List<Integer> values) {
        long h = 17;
        for (int v : values) {
            h = 31 * h + v;
        }
        return h;
    }

    private static void add(List<Integer> values, int... more) {
        for (int v : more) {
            values.add(v);
        }
    }

    private static void digestOfNone() {
        List<Integer> values = new ArrayList<>();
        add(values, 0, 0, 0, 0, 0, 0, 0, 0, 0);
        add(values, MISSING, MISSING, MISSING);
        add(values, MISSING, MISSING, MISSING, MISSING, MISSING, MISSING);
        add(values, MISSING, MISSING, MISSING, MISSING);
        due.is("digest() of none", new PawnLane().digest(), fold(values));
        PawnLane x = new PawnLane();
        for (int r = 0; r < 6; r++) {
            x.row(r, 0);
        }
        for (int t = 0; t < 4; t++) {
            x.text(t, 0);
        }
        List<Integer> empty = new ArrayList<>();
        add(empty, 0, 0, 0, 0, 0, 0, 6, 4, 0);
        add(empty, MISSING, MISSING, MISSING);
        add(empty, 0, 0, 0, 0, 0, 0);
        add(empty, 0, 0, 0, 0);
        due.is("digest() of ROWS and TEXTS of none", x.digest(), fold(empty));
    }

    private static void digestOfMost() {
        List<Integer> values = new ArrayList<>();
        add(values, 6, 6, 40, 54, 6 * 129, 6, 6, 4, 3);
        int[] holders = {1, 2, 0, 0, 0, 0};
        int[] held = {4 + 8 + 16 + 32, 1, 2, 0, 0, 0};
        for (int s = 0; s < 6; s++) {
            add(values, s < 3 ? 5 : 2, 9, 9, holders[s], 129, 40, held[s]);
        }
        add(values, 40, 40, 40);
        for (int r = 0; r < 6; r++) {
            add(values, 40);
            add(values, new int[39]);
            add(values, MIN + r);
        }
        for (int t = 0; t < 3; t++) {
            add(values, 60);
            for (int i = 0; i < 59; i++) {
                add(values, 32);
            }
            add(values, -128 + t);
        }
        String text = "v99v99v99h99h99h99 t019t129t209t309t409t509";
        add(values, text.length());
        for (int i = 0; i < text.length(); i++) {
            add(values, text.charAt(i));
        }
        due.is("digest() of all there may be", most().digest(), fold(values));
    }

    /** Each part that is in it changes it, and nothing else does. */
    private static void digestTellsEachPart() {
        long before = States.busy().digest();
        Map<String, ToIntFunction<PawnLane>> changing = new LinkedHashMap<>();
        changing.put("a ROW more", x -> x.row(3, 0));
        changing.put("a ROW less", x -> x.tear(2));
        changing.put("a place", x -> x.lay(0, 4, 16));
        changing.put("a TEXT more", x -> x.text(2, 0));
        changing.put("a byte", x -> x.put(1, 5, 'y'));
        changing.put("a kept LANE more", x -> x.keep(1));
        changing.put("a kept LANE's DEEDS", x -> x.keep(0));
        changing.put("a DEED less", x -> x.undo(3));
        changing.put("SHILLINGS", x -> x.give(0, 1));
        changing.put("WEEKS", PawnLane::week);
        changing.put("a TICKET less", x -> x.redeem(States.CAN));
        changing.put("a TICKET more", x -> x.pawn(States.OUT, 0, 1));
        for (Map.Entry<String, ToIntFunction<PawnLane>> call : changing.entrySet()) {
            PawnLane x = States.busy();
            due.holds(call.getKey() + " is done", call.getValue().applyAsInt(x) >= 0);
            due.holds(call.getKey() + " is in digest()", x.digest() != before);
        }
        PawnLane x = States.busy();
        x.at(0, 0);
        x.ways();
        x.tear(3);
        due.is("asked(), upper(), findings() are not in it", x.digest(), before);
        due.is("it tells the same again", x.digest(), before);
    }
}
