/** Promises 1 to 9: a new object, rows, texts. */
public final class RowsTest {
    private static final int MAX = Integer.MAX_VALUE, MIN = Integer.MIN_VALUE;
    private static final Due due = new Due("RowsTest");

    public static void main(String[] args) {
        newObject();
        row();
        layAndAt();
        tear();
        copy();
        mean();
        text();
        put();
        due.end();
    }

    private static void newObject() {
        PawnLane x = new PawnLane();
        for (int what = 0; what <= 8; what++) {
            due.is("new, count(" + what + ")", x.count(what), 0);
        }
        for (int r = 0; r < 6; r++) {
            due.finds("new, at(" + r + ", 0)", x, x.at(r, 0), 1);
        }
        for (int t = 0; t < 4; t++) {
            due.finds("new, fault(" + t + ")", x, x.fault(t), 1);
        }
        for (int s = 0; s < 6; s++) {
            due.is("new, shop(" + s + ", 0)", x.shop(s, 0), -1);
        }
    }

    private static void row() {
        PawnLane x = new PawnLane();
        due.is("row(0, 40)", x.row(0, 40), 40);
        due.is("lay(0, 39, 5)", x.lay(0, 39, 5), 1);
        due.is("row(0, 40) anew", x.row(0, 40), 40);
        due.told("at(0, 39)", x, x.at(0, 39), 1, 0);
        due.is("row(5, 0)", x.row(5, 0), 0);
        due.finds("at(5, 0) of none", x, x.at(5, 0), 2);
        int[] bad = {-1, 6, MAX, MIN};
        for (int r : bad) {
            due.is("row(" + r + ", 1)", x.row(r, 1), -1);
            due.is("row(" + r + ", -1): BAD first", x.row(r, -1), -1);
        }
        due.is("row(0, 41)", x.row(0, 41), -1);
        due.is("row(0, MAX)", x.row(0, MAX), -1);
        due.is("no SIZE yet", x.findings(5), 0);
        due.finds("row(0, -1)", x, x.row(0, -1), 5);
        due.finds("row(0, MIN)", x, x.row(0, MIN), 5);
        due.told("refused: as it was", x, x.at(0, 39), 1, 0);
        due.is("count(6)", x.count(6), 2);
    }

    private static void layAndAt() {
        PawnLane x = new PawnLane();
        x.row(2, 3);
        due.told("lay(2, 0, 7)", x, x.lay(2, 0, 7), 1, 0);
        due.told("lay(2, 0, MIN)", x, x.lay(2, 0, MIN), 1, 7);
        due.told("at(2, 0)", x, x.at(2, 0), 1, MIN);
        due.told("lay(2, 2, MAX)", x, x.lay(2, 2, MAX), 1, 0);
        due.told("at(2, 2)", x, x.at(2, 2), 1, MAX);
        int[] beyond = {-1, 3, 40, MAX, MIN};
        for (int i : beyond) {
            due.finds("lay(2, " + i + ", 1)", x, x.lay(2, i, 1), 2);
            due.finds("at(2, " + i + ")", x, x.at(2, i), 2);
        }
        due.is("asked() stays", x.asked(), MAX);
        due.finds("lay(3, 0, 1)", x, x.lay(3, 0, 1), 1);
        due.finds("at(3, -1): NOTHING first", x, x.at(3, -1), 1);
        int[] bad = {-1, 6, MAX, MIN};
        for (int r : bad) {
            due.is("lay(" + r + ", 0, 1)", x.lay(r, 0, 1), -1);
            due.is("at(" + r + ", 0)", x.at(r, 0), -1);
        }
        due.is("finding() stays", x.finding(), 1);
    }

    private static void tear() {
        PawnLane x = new PawnLane();
        Due.lay(x, 1, 4, 5);
        due.is("tear(1)", x.tear(1), 1);
        due.finds("at(1, 0) of a torn one", x, x.at(1, 0), 1);
        due.finds("tear(1) again", x, x.tear(1), 1);
        due.is("tear(6)", x.tear(6), -1);
        due.is("tear(-1)", x.tear(-1), -1);
        due.is("count(6)", x.count(6), 0);
        x.row(1, 2);
        due.told("a torn one anew", x, x.at(1, 0), 1, 0);
    }

    private static void copy() {
        PawnLane x = new PawnLane();
        Due.lay(x, 0, 1, 2, 3, 4, 5);
        due.is("copy(0, 0, 0, 1, 4)", x.copy(0, 0, 0, 1, 4), 1);
        due.row("forwards, as if taken ahead", x, 0, 1, 1, 2, 3, 4);
        due.is("copy(0, 1, 0, 0, 4)", x.copy(0, 1, 0, 0, 4), 1);
        due.row("backwards, as if taken ahead", x, 0, 1, 2, 3, 4, 4);
        Due.lay(x, 5, 9, 9, 9);
        due.is("copy(0, 2, 5, 1, 2)", x.copy(0, 2, 5, 1, 2), 1);
        due.row("to another one", x, 5, 9, 3, 4);
        due.is("copy(5, 3, 0, 5, 0): none, at the ends", x.copy(5, 3, 0, 5, 0), 1);
        due.finds("copy(5, 4, 0, 0, 0)", x, x.copy(5, 4, 0, 0, 0), 2);
        due.finds("copy(5, 0, 0, 6, 0)", x, x.copy(5, 0, 0, 6, 0), 2);
        due.finds("copy(5, -1, 0, 0, 1)", x, x.copy(5, -1, 0, 0, 1), 2);
        due.finds("copy(5, 0, 0, -1, 1)", x, x.copy(5, 0, 0, -1, 1), 2);
        due.finds("copy(5, 0, 0, 0, 4)", x, x.copy(5, 0, 0, 0, 4), 2);
        due.finds("copy(0, 0, 5, 0, 4)", x, x.copy(0, 0, 5, 0, 4), 2);
        due.finds("copy(5, MAX, 0, 0, MAX)", x, x.copy(5, MAX, 0, 0, MAX), 2);
        due.finds("copy(5, 1, 0, 1, MAX)", x, x.copy(5, 1, 0, 1, MAX), 2);
        due.finds("copy(5, MIN, 0, 0, 3)", x, x.copy(5, MIN, 0, 0, 3), 2);
        due.finds("copy(1, 0, 0, 0, 0)", x, x.copy(1, 0, 0, 0, 0), 1);
        due.finds("copy(0, 0, 1, 9, 0): NOTHING ahead of BEYOND", x, x.copy(0, 0, 1, 9, 0), 1);
        due.finds("copy(1, 0, 1, 0, -1): SIZE ahead of NOTHING", x, x.copy(1, 0, 1, 0, -1), 5);
        due.finds("copy(0, 0, 0, 0, MIN)", x, x.copy(0, 0, 0, 0, MIN), 5);
        due.is("copy(6, 0, 0, 0, -1)", x.copy(6, 0, 0, 0, -1), -1);
        due.is("copy(0, 0, 6, 0, -1)", x.copy(0, 0, 6, 0, -1), -1);
        due.is("copy(-1, 0, 0, 0, 0)", x.copy(-1, 0, 0, 0, 0), -1);
        due.is("copy(0, 0, -1, 0, 0)", x.copy(0, 0, -1, 0, 0), -1);
        due.row("refused: as it was", x, 5, 9, 3, 4);
    }

    private static void mean() {
        PawnLane x = new PawnLane();
        Due.lay(x, 0, 7, 8);
        due.told("mean of 7 8", x, x.mean(0), 1, 7);
        Due.lay(x, 0, -7, -8);
        due.told("mean of -7 -8", x, x.mean(0), 1, -7);
        Due.lay(x, 0, MAX, MAX, MAX - 3);
        due.told("mean beyond ints", x, x.mean(0), 1, MAX - 1);
        Due.lay(x, 0, MIN, MIN);
        due.told("mean of the least", x, x.mean(0), 1, MIN);
        x.row(0, 0);
        due.finds("mean of none", x, x.mean(0), 4);
        due.finds("mean(1)", x, x.mean(1), 1);
        due.is("mean(6)", x.mean(6), -1);
        due.is("mean(-1)", x.mean(-1), -1);
        due.is("asked() stays", x.asked(), MIN);
    }

    private static void text() {
        PawnLane x = new PawnLane();
        due.is("text(0, 60)", x.text(0, 60), 60);
        due.is("put(0, 59, 65)", x.put(0, 59, 65), 1032);
        due.is("text(0, 60) anew", x.text(0, 60), 60);
        due.is("put(0, 59, 66)", x.put(0, 59, 66), 1032);
        due.is("text(3, 0)", x.text(3, 0), 0);
        due.is("text(4, 0)", x.text(4, 0), -1);
        due.is("text(-1, -1)", x.text(-1, -1), -1);
        due.is("text(0, 61)", x.text(0, 61), -1);
        due.is("text(0, MAX)", x.text(0, MAX), -1);
        due.finds("text(0, -1)", x, x.text(0, -1), 5);
        due.finds("text(0, MIN)", x, x.text(0, MIN), 5);
        due.is("count(7)", x.count(7), 2);
        due.is("refused: as it was", x.put(0, 59, 1), 1066);
    }

    private static void put() {
        PawnLane x = new PawnLane();
        x.text(1, 2);
        due.is("put(1, 0, 127)", x.put(1, 0, 127), 1032);
        due.is("put(1, 0, 128)", x.put(1, 0, 128), 1127);
        due.is("put(1, 0, 255)", x.put(1, 0, 255), 872);
        due.is("put(1, 0, 256 + 115)", x.put(1, 0, 256 + 115), 999);
        due.is("put(1, 0, MIN)", x.put(1, 0, MIN), 1115);
        due.is("put(1, 0, MAX)", x.put(1, 0, MAX), 1000);
        due.is("put(1, 0, 0)", x.put(1, 0, 0), 999);
        due.finds("put(1, 2, 0)", x, x.put(1, 2, 0), 2);
        due.finds("put(1, -1, 0)", x, x.put(1, -1, 0), 2);
        due.finds("put(2, 0, 0)", x, x.put(2, 0, 0), 1);
        due.is("put(4, 0, 0)", x.put(4, 0, 0), -1);
        due.is("put(-1, 0, 0)", x.put(-1, 0, 0), -1);
    }
}
