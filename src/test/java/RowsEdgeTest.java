/** The edges of promises 1 to 9: a new object, row, lay, at, tear, copy, mean, text, put. */
public final class RowsEdgeTest {
    private static final int BAD = Grid.BAD, STATE = Grid.STATE, MAX = Grid.MAX, MIN = Grid.MIN;
    private static final int NOTHING = Grid.NOTHING, BEYOND = Grid.BEYOND, NOUGHT = Grid.NOUGHT, SIZE = Grid.SIZE;
    private static final int ROWS = 6, ROW_PLACES = 40, TEXTS = 4, TEXT_PLACES = 60;
    private static final Due due = new Due("RowsEdgeTest");
    private static final Twins twins = new Twins(due);

    public static void main(String[] args) {
        newObjectRefuses();
        newObjectTells();
        rowSizes();
        rowAnew();
        rowRefusals();
        places();
        placeRefusals();
        tear();
        copySizes();
        copyInItself();
        copyRefusals();
        mean();
        textSizes();
        textAnew();
        textRefusals();
        bytes();
        putRefusals();
        due.end();
    }

    // ---- promise 1

    private static void newObjectRefuses() {
        twins.refused("new: lay", States::fresh, x -> x.lay(0, 0, 1), NOTHING);
        twins.refused("new: at", States::fresh, x -> x.at(0, 0), NOTHING);
        twins.refused("new: tear", States::fresh, x -> x.tear(0), NOTHING);
        twins.refused("new: copy", States::fresh, x -> x.copy(0, 0, 1, 0, 0), NOTHING);
        twins.refused("new: mean", States::fresh, x -> x.mean(0), NOTHING);
        twins.refused("new: put", States::fresh, x -> x.put(0, 0, 1), NOTHING);
        twins.refused("new: fault", States::fresh, x -> x.fault(0), NOTHING);
        twins.refused("new: lane", States::fresh, x -> x.lane(0), NOTHING);
        twins.refused("new: on", States::fresh, x -> x.on(0), NOTHING);
        twins.refused("new: shop", States::fresh, x -> x.shop(0, 0), BAD);
        twins.refused("new: mark", States::fresh, x -> x.mark(0, 1), BAD);
        twins.refused("new: stock", States::fresh, x -> x.stock(0, 0), BAD);
        twins.refused("new: redeem", States::fresh, x -> x.redeem(0), BAD);
        twins.refused("new: pawn", States::fresh, x -> x.pawn(0, 1, 1), BAD);
        twins.refused("new: give", States::fresh, x -> x.give(0, 1), BAD);
        twins.refused("new: deep", States::fresh, x -> x.deep(0), BAD);
        twins.refused("new: inside", States::fresh, x -> x.inside(0), BAD);
        twins.refused("new: goods", States::fresh, x -> x.goods(0), BAD);
        twins.refused("new: worth", States::fresh, x -> x.worth(0), BAD);
        twins.refused("new: chalk", States::fresh, x -> x.chalk(0, 0), BAD);
        twins.refused("new: free", States::fresh, x -> x.free(0, 0), BAD);
        twins.refused("new: shuts", States::fresh, x -> x.shuts(0), BAD);
        twins.refused("new: undo(1)", States::fresh, x -> x.undo(1), BAD);
        twins.refused("new: through(1)", States::fresh, x -> x.through(1), BAD);
        twins.refused("new: week", States::fresh, PawnLane::week, STATE);
        twins.refused("new: keep", States::fresh, x -> x.keep(0), STATE);
        twins.refused("new: hangs", States::fresh, PawnLane::hangs, STATE);
        twins.refused("new: order", States::fresh, x -> x.order(0), STATE);
        twins.refused("new: ways", States::fresh, PawnLane::ways, STATE);
        twins.refused("new: most", States::fresh, PawnLane::most, STATE);
        twins.refused("new: least", States::fresh, PawnLane::least, STATE);
        twins.refused("new: till", States::fresh, PawnLane::till, STATE);
        twins.refused("new: run", States::fresh, x -> x.run(0), STATE);
        twins.refused("new: missing", States::fresh, x -> x.missing(0), STATE);
        twins.refused("new: odds", States::fresh, x -> x.odds(0), STATE);
        twins.refused("new: lots", States::fresh, x -> x.lots(1, 1), STATE);
    }

    private static void newObjectTells() {
        twins.still("new: undo(0)", States::fresh, x -> x.undo(0), 0);
        twins.still("new: can()", States::fresh, PawnLane::can, 0);
        twins.still("new: asked()", States::fresh, PawnLane::asked, 0);
        twins.still("new: upper()", States::fresh, x -> (int) x.upper(), 0);
        twins.still("new: lower()", States::fresh, x -> (int) x.lower(), 1);
        twins.still("new: finding()", States::fresh, PawnLane::finding, 0);
        twins.asks("new: rings()", States::fresh, PawnLane::rings, 0, 0);
        twins.chance("new: through(0)", States::fresh, x -> x.through(0), 1, 1);
        for (int what = 0; what <= 8; what++) {
            int w = what;
            twins.still("new: count(" + w + ")", States::fresh, x -> x.count(w), 0);
        }
        for (int f = 1; f <= 5; f++) {
            int g = f;
            twins.still("new: findings(" + g + ")", States::fresh, x -> x.findings(g), 0);
        }
    }

    // ---- promise 2

    private static void rowSizes() {
        int[] sizes = {0, 1, 39, 40};
        for (int n : sizes) {
            for (int r = 0; r < ROWS; r++) {
                PawnLane x = new PawnLane();
                String call = "row(" + r + ", " + n + ")";
                due.is(call, x.row(r, n), n);
                for (int i = 0; i < n; i++) {
                    due.told(call + ": place " + i, x, x.at(r, i), 1, 0);
                }
                due.finds(call + ": none behind", x, x.at(r, n), BEYOND);
                due.is(call + ": one ROW", x.count(6), 1);
                due.is(call + ": no TEXT", x.count(7), 0);
            }
        }
    }

    private static void rowAnew() {
        PawnLane x = new PawnLane();
        for (int r = 0; r < ROWS; r++) {
            x.row(r, ROW_PLACES);
            for (int i = 0; i < ROW_PLACES; i += 13) {
                x.lay(r, i, 1 + r * 100 + i);
            }
        }
        due.is("six ROWS of 40", x.count(6), ROWS);
        due.is("a ROW anew, smaller", x.row(2, 14), 14);
        due.told("its ints are 0", x, x.at(2, 0), 1, 0);
        due.told("its last int is 0", x, x.at(2, 13), 1, 0);
        due.finds("the older places are not there", x, x.at(2, 26), BEYOND);
        due.is("a ROW anew, larger", x.row(2, ROW_PLACES), ROW_PLACES);
        for (int i = 0; i < ROW_PLACES; i++) {
            due.told("older ints don't come back at " + i, x, x.at(2, i), 1, 0);
        }
        for (int r = 0; r < ROWS; r++) {
            for (int i = 0; i < ROW_PLACES && r != 2; i += 13) {
                due.told("ROW " + r + " as it was at " + i, x, x.at(r, i), 1, 1 + r * 100 + i);
            }
        }
    }

    private static void rowRefusals() {
        new Grid(due, "row", BAD, SIZE).state("busy", States::busy, Grid.RIGHT).state("new", States::fresh, Grid.RIGHT)
            .slot(Grid.rows())
            .slot(Grid.right(0, 40).wrong(BAD, 41, MAX).wrong(SIZE, -1, MIN))
            .check((x, a) -> x.row(a[0], a[1]));
    }

    // ---- promises 3, 4

    private static void places() {
        int[] sizes = {1, 2, 40};
        int[] ints = {MAX, MIN, -1, 0, 1};
        for (int n : sizes) {
            PawnLane x = new PawnLane();
            x.row(0, n);
            int was = 0;
            for (int v : ints) {
                due.told("lay(0, " + (n - 1) + ", " + v + "): what it was", x, x.lay(0, n - 1, v), 1, was);
                due.told("at(0, " + (n - 1) + ")", x, x.at(0, n - 1), 1, v);
                was = v;
            }
            for (int i = 0; i < n - 1; i++) {
                due.told("place " + i + " of " + n + " as it was", x, x.at(0, i), 1, 0);
            }
        }
        twins.rowOnly("lay: its ROW alone", States::busy, x -> {
            int answer = x.lay(0, 4, 99);
            // what it was: told by asked(), which busy() left at 7
            x.at(States.ROW_OF_40, 39);
            return answer;
        }, 1, 0);
        twins.asks("at", States::busy, x -> x.at(0, 4), 1, 15);
        twins.asks("lay of what it is", States::busy, x -> x.lay(0, 4, 15), 1, 15);
    }

    private static void placeRefusals() {
        Grid.Slot rows = Grid.right(States.ROW_OF_5).wrong(BAD, -1, 6, MAX, MIN).wrong(NOTHING, States.MISSING_ROW);
        Grid.Slot places = Grid.right(0, 4).wrong(BEYOND, -1, 5, 40, MAX, MIN);
        new Grid(due, "lay", BAD, NOTHING, BEYOND).state("busy", States::busy, Grid.RIGHT)
            .slot(rows).slot(places).slot(Grid.right(0, MIN)).check((x, a) -> x.lay(a[0], a[1], a[2]));
        new Grid(due, "at", BAD, NOTHING, BEYOND).state("busy", States::busy, Grid.RIGHT)
            .slot(rows).slot(places).check((x, a) -> x.at(a[0], a[1]));
        twins.refused("at of a ROW of none", States::busy, x -> x.at(States.ROW_OF_NONE, 0), BEYOND);
        twins.refused("lay of a ROW of none", States::busy, x -> x.lay(States.ROW_OF_NONE, 0, 0), BEYOND);
        twins.refused("at of a ROW of 40", States::busy, x -> x.at(States.ROW_OF_40, 40), BEYOND);
        twins.refused("lay of a ROW of 40", States::busy, x -> x.lay(States.ROW_OF_40, 40, 1), BEYOND);
    }

    // ---- promise 5

    private static void tear() {
        new Grid(due, "tear", BAD, NOTHING).state("busy", States::busy, Grid.RIGHT)
            .slot(Grid.right(0, 1, 2, 4, 5).wrong(NOTHING, States.MISSING_ROW).wrong(BAD, -1, 6, MAX, MIN))
            .check((x, a) -> x.tear(a[0]));
        for (int r = 0; r < ROWS; r++) {
            PawnLane x = new PawnLane();
            for (int other = 0; other < ROWS; other++) {
                Due.lay(x, other, other + 1);
            }
            due.is("tear(" + r + ")", x.tear(r), 1);
            due.is("one ROW less", x.count(6), ROWS - 1);
            for (int other = 0; other < ROWS; other++) {
                due.is("at(" + other + ", 0)", x.at(other, 0), other == r ? PawnLane.FINDING : 1);
            }
            due.finds("torn already", x, x.tear(r), NOTHING);
            x.row(r, 1);
            due.told("anew its int is 0", x, x.at(r, 0), 1, 0);
            for (int other = 0; other < ROWS; other++) {
                due.told("ROW " + other + " as it was", x, x.at(other, 0), 1, other == r ? 0 : other + 1);
            }
        }
        PawnLane x = new PawnLane();
        x.row(3, 0);
        due.is("a ROW of none is there to be torn", x.tear(3), 1);
        due.finds("and then it is not", x, x.tear(3), NOTHING);
    }

    // ---- promise 6

    private static void copySizes() {
        PawnLane x = new PawnLane();
        x.row(0, ROW_PLACES);
        x.row(5, ROW_PLACES);
        for (int i = 0; i < ROW_PLACES; i++) {
            x.lay(0, i, i + 1);
        }
        due.is("copy of 0", x.copy(0, 0, 5, 0, 0), 1);
        due.told("none came", x, x.at(5, 0), 1, 0);
        due.is("copy of the last one to the first", x.copy(0, 39, 5, 0, 1), 1);
        due.told("it came", x, x.at(5, 0), 1, 40);
        due.told("and no other", x, x.at(5, 1), 1, 0);
        due.is("copy of the first one to the last", x.copy(0, 0, 5, 39, 1), 1);
        due.told("it came", x, x.at(5, 39), 1, 1);
        due.told("and no other", x, x.at(5, 38), 1, 0);
        due.is("copy of 40", x.copy(0, 0, 5, 0, 40), 1);
        for (int i = 0; i < ROW_PLACES; i++) {
            due.told("all came, at " + i, x, x.at(5, i), 1, i + 1);
        }
        due.told("what was copied is there still", x, x.at(0, 39), 1, 40);
        x.row(1, 0);
        due.is("copy of 0 among ROWS of none", x.copy(1, 0, 1, 0, 0), 1);
        due.is("copy of 0 at the ends", x.copy(0, 40, 5, 40, 0), 1);
        due.finds("copy of 0 behind an end", x, x.copy(0, 41, 5, 0, 0), BEYOND);
        due.finds("copy of 0 to behind an end", x, x.copy(0, 0, 5, 41, 0), BEYOND);
        due.finds("copy of 0 ahead of a beginning", x, x.copy(0, -1, 5, 0, 0), BEYOND);
        due.finds("copy of 0 to ahead of a beginning", x, x.copy(0, 0, 5, -1, 0), BEYOND);
        twins.rowOnly("copy: its ROW alone", States::busy, y -> y.copy(0, 0, 4, 2, 5), 1, 4);
    }

    private static void copyInItself() {
        for (int i = 0; i <= 3; i++) {
            for (int j = 0; j <= 3; j++) {
                PawnLane x = new PawnLane();
                Due.lay(x, 3, 1, 2, 3, 4, 5, 6);
                int[] want = {1, 2, 3, 4, 5, 6};
                System.arraycopy(new int[] {1, 2, 3, 4, 5, 6}, i, want, j, 3);
                due.is("copy(3, " + i + ", 3, " + j + ", 3)", x.copy(3, i, 3, j, 3), 1);
                due.row("as if taken ahead, " + i + " to " + j, x, 3, want);
            }
        }
    }

    private static void copyRefusals() {
        Grid.Slot from = Grid.right(States.ROW_OF_5).wrong(BAD, -1, 6, MIN).wrong(NOTHING, States.MISSING_ROW);
        Grid.Slot to = Grid.right(States.ROW_OF_7).wrong(BAD, -1, 6, MAX).wrong(NOTHING, States.MISSING_ROW);
        new Grid(due, "copy", BAD, SIZE, NOTHING, BEYOND).state("busy", States::busy, Grid.RIGHT)
            .slot(from).slot(Grid.right(0, 3).wrong(BEYOND, -1, 4, MAX, MIN))
            .slot(to).slot(Grid.right(0, 5).wrong(BEYOND, -1, 6, MAX, MIN))
            .slot(Grid.right(2).wrong(SIZE, -1, MIN).wrong(BEYOND, 8, 41, MAX))
            .check((x, a) -> x.copy(a[0], a[1], a[2], a[3], a[4]));
        twins.refused("one more than there are", States::busy, x -> x.copy(0, 0, 4, 0, 6), BEYOND);
        twins.refused("one more than can come", States::busy, x -> x.copy(4, 0, 0, 0, 6), BEYOND);
        twins.refused("both missing", States::fresh, x -> x.copy(0, 0, 5, 0, 0), NOTHING);
    }

    // ---- promise 7

    private static void meanIs(int want, int... ints) {
        PawnLane x = new PawnLane();
        Due.lay(x, 4, ints);
        due.told("mean of " + java.util.Arrays.toString(ints), x, x.mean(4), 1, want);
    }

    private static void mean() {
        meanIs(MAX, MAX);
        meanIs(MIN, MIN);
        meanIs(0, MAX, MIN);
        meanIs(0, 1, 0);
        meanIs(0, -1, 0);
        meanIs(1, 1, 2);
        meanIs(-1, -1, -2);
        meanIs(0, 1, 0, 0);
        meanIs(1, 3, 0, 0);
        meanIs(-1, -3, -2, 0);
        PawnLane x = new PawnLane();
        x.row(0, ROW_PLACES);
        due.told("mean of 40 times 0", x, x.mean(0), 1, 0);
        for (int i = 0; i < ROW_PLACES; i++) {
            x.lay(0, i, MAX);
        }
        due.told("mean of 40 times the largest", x, x.mean(0), 1, MAX);
        for (int i = 0; i < ROW_PLACES; i++) {
            x.lay(0, i, MIN);
        }
        due.told("mean of 40 times the least", x, x.mean(0), 1, MIN);
        Due.lay(x, 0, 4, 6, 900);
        x.row(0, 2);
        due.told("older places don't count", x, x.mean(0), 1, 0);
        Due.lay(x, 1, 7);
        x.row(0, ROW_PLACES);
        x.lay(0, 39, 80);
        due.told("nor those of the next ROW", x, x.mean(0), 1, 2);
        x.row(5, ROW_PLACES);
        x.lay(5, 39, 40);
        due.told("the last ROW of 40", x, x.mean(5), 1, 1);
        twins.asks("mean", States::busy, y -> y.mean(0), 1, 2);
        new Grid(due, "mean", BAD, NOTHING, NOUGHT).state("busy", States::busy, Grid.RIGHT)
            .slot(Grid.right(0, 1, 4, 5).wrong(NOUGHT, States.ROW_OF_NONE).wrong(NOTHING, States.MISSING_ROW)
                .wrong(BAD, -1, 6, MAX, MIN))
            .check((y, a) -> y.mean(a[0]));
    }

    // ---- promise 8

    private static void textSizes() {
        int[] sizes = {0, 1, 59, 60};
        for (int n : sizes) {
            for (int t = 0; t < TEXTS; t++) {
                PawnLane x = new PawnLane();
                String call = "text(" + t + ", " + n + ")";
                due.is(call, x.text(t, n), n);
                for (int i = 0; i < n; i++) {
                    due.is(call + ": a blank at " + i, x.put(t, i, 32), 1032);
                }
                due.finds(call + ": none behind", x, x.put(t, n, 32), BEYOND);
                due.is(call + ": its end comes too early", x.fault(t), n);
                due.is(call + ": one TEXT", x.count(7), 1);
                due.is(call + ": no ROW", x.count(6), 0);
            }
        }
    }

    private static void textAnew() {
        PawnLane x = new PawnLane();
        for (int t = 0; t < TEXTS; t++) {
            x.text(t, TEXT_PLACES);
            for (int i = 0; i < TEXT_PLACES; i += 59) {
                x.put(t, i, 65 + t);
            }
        }
        due.is("four TEXTS of 60", x.count(7), TEXTS);
        due.is("a TEXT anew, smaller", x.text(1, 0), 0);
        due.finds("the older places are not there", x, x.put(1, 0, 1), BEYOND);
        due.is("a TEXT anew, larger", x.text(1, TEXT_PLACES), TEXT_PLACES);
        due.is("older bytes don't come back", x.put(1, 0, 32), 1032);
        due.is("older bytes don't come back at the end", x.put(1, 59, 32), 1032);
        for (int t = 0; t < TEXTS; t++) {
            due.is("TEXT " + t + " as it was", x.put(t, 0, 0), t == 1 ? 1032 : 1065 + t);
            due.is("TEXT " + t + " as it was at the end", x.put(t, 59, 0), t == 1 ? 1032 : 1065 + t);
        }
    }

    private static void textRefusals() {
        new Grid(due, "text", BAD, SIZE).state("busy", States::busy, Grid.RIGHT).state("new", States::fresh, Grid.RIGHT)
            .slot(Grid.right(0, 3).wrong(BAD, -1, 4, 5, MAX, MIN))
            .slot(Grid.right(0, 60).wrong(BAD, 61, MAX).wrong(SIZE, -1, MIN))
            .check((x, a) -> x.text(a[0], a[1]));
    }

    // ---- promise 9

    private static void bytes() {
        int[][] cuts = {
            {-129, 127}, {-128, -128}, {-127, -127}, {-1, -1}, {0, 0}, {1, 1}, {127, 127}, {128, -128}, {129, -127},
            {255, -1}, {256, 0}, {257, 1}, {-256, 0}, {-257, -1}, {65536 + 115, 115}, {MAX, -1}, {MIN, 0}};
        PawnLane x = new PawnLane();
        x.text(2, 3);
        int was = 32;
        for (int[] cut : cuts) {
            due.is("put(2, 1, " + cut[0] + "): what it was", x.put(2, 1, cut[0]), 1000 + was);
            was = cut[1];
        }
        due.is("the last of these", x.put(2, 1, 32), 1000 + was);
        due.is("the one ahead as it was", x.put(2, 0, 32), 1032);
        due.is("the one behind as it was", x.put(2, 2, 32), 1032);
        twins.still("put of what it is", States::busy, y -> y.put(States.LANE_TEXT, 0, 's'), 1115);
        Due.write(x, 0, "s00s00");
        x.put(0, 3, 256 + 'u');
        due.is("a letter that was cut is a letter", x.fault(0), PawnLane.NONE);
    }

    private static void putRefusals() {
        Grid.Slot texts = Grid.right(States.FAULT_TEXT).wrong(BAD, -1, 4, MAX, MIN).wrong(NOTHING, States.MISSING_TEXT);
        new Grid(due, "put", BAD, NOTHING, BEYOND).state("busy", States::busy, Grid.RIGHT)
            .slot(texts).slot(Grid.right(0, 5).wrong(BEYOND, -1, 6, 60, MAX, MIN)).slot(Grid.right(0, MIN))
            .check((x, a) -> x.put(a[0], a[1], a[2]));
        twins.refused("put to a TEXT of none", States::busy, x -> x.put(States.TEXT_OF_NONE, 0, 1), BEYOND);
    }
}
