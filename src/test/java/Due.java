/** Counts the answers that are not the ones due, and ends the test with exit code 1 if there was one. */
final class Due {
    private final String test;
    private int wrong = 0;
    private int checked = 0;

    Due(String test) {
        this.test = test;
    }

    void is(String call, long got, long want) {
        checked++;
        if (got != want) {
            wrong++;
            System.out.println(test + ": " + call + " answered " + got + ", due is " + want);
        }
    }

    void told(String call, PawnLane x, long got, long want, int asked) {
        is(call, got, want);
        is(call + ", asked()", x.asked(), asked);
    }

    void chance(String call, PawnLane x, long got, long upper, long lower) {
        is(call, got, 1);
        is(call + ", upper()", x.upper(), upper);
        is(call + ", lower()", x.lower(), lower);
    }

    void finds(String call, PawnLane x, int got, int finding) {
        is(call, got, PawnLane.FINDING);
        is(call + ", finding()", x.finding(), finding);
    }

    void holds(String what, boolean so) {
        is(what, so ? 1 : 0, 1);
    }

    void row(String call, PawnLane x, int r, int... want) {
        for (int i = 0; i < want.length; i++) {
            is(call + ", at(" + r + ", " + i + ")", x.at(r, i), 1);
            is(call + ", at(" + r + ", " + i + ") asked()", x.asked(), want[i]);
        }
        is(call + ", at(" + r + ", " + want.length + ")", x.at(r, want.length), PawnLane.FINDING);
    }

    /** A ROW anew, with these ints. */
    static void lay(PawnLane x, int r, int... values) {
        x.row(r, values.length);
        for (int i = 0; i < values.length; i++) {
            x.lay(r, i, values[i]);
        }
    }

    static void write(PawnLane x, int t, String text) {
        x.text(t, text.length());
        for (int i = 0; i < text.length(); i++) {
            x.put(t, i, text.charAt(i));
        }
    }

    /** A new object with the LANE of a text. */
    static PawnLane lane(String text) {
        PawnLane x = new PawnLane();
        write(x, 3, text);
        if (x.lane(3) < 2) {
            throw new IllegalStateException("no lane: " + text);
        }
        return x;
    }

    void end() {
        System.out.println(test + ": " + checked + " answers, " + wrong + " not as due");
        if (wrong != 0) {
            System.exit(1);
        }
    }
}
