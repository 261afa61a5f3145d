/**
 * Objects in which whatever a refused call would spoil can be seen. Each is made anew by the same calls,
 * at most 160 of the 512 that an object is good for.
 */
final class States {
    /** ROWS by their number: of 5, of 40, of none, missing, of 7, of 6 SHOPS in an ORDER. */
    static final int ROW_OF_5 = 0, ROW_OF_40 = 1, ROW_OF_NONE = 2, MISSING_ROW = 3, ROW_OF_7 = 4, ORDER_ROW = 5;
    /** TEXTS by their number: a LANE, one with a FAULT, missing, of none. */
    static final int LANE_TEXT = 0, FAULT_TEXT = 1, MISSING_TEXT = 2, TEXT_OF_NONE = 3;
    /** Of the SHOPS in busy(): one that can be REDEEMED, one that has too few SHILLINGS, one that is not IN PAWN. */
    static final int CAN = 0, POOR = 1, OUT = 5;
    /** The KEPT places of busy(): with 1 DEED, missing, with 3 DEEDS. */
    static final int KEPT_1 = 0, MISSING_KEPT = 1, KEPT_3 = 2;
    static final int DEEDS = 4;

    private States() {
    }

    static PawnLane fresh() {
        return new PawnLane();
    }

    /** ROWS, TEXTS, all that is told at work, but no SHOPS. */
    static PawnLane noShops() {
        PawnLane x = new PawnLane();
        Due.lay(x, ROW_OF_5, 11, -12, 13, -14, 15);
        x.row(ROW_OF_40, 40);
        x.lay(ROW_OF_40, 39, 7);
        x.row(ROW_OF_NONE, 0);
        x.row(ROW_OF_7, 7);
        Due.lay(x, ORDER_ROW, 0, 0, 0, 0, 0, 0);
        Due.write(x, LANE_TEXT, "s50u20h90w11a34v70t014t125t305t452");
        Due.write(x, FAULT_TEXT, "s50u2x");
        x.text(TEXT_OF_NONE, 0);
        x.through(0);
        find(x);
        // asked() tells 7
        x.at(ROW_OF_40, 39);
        return x;
    }

    /** Each FINDING as often as its number; NOUGHT is the latest. */
    private static void find(PawnLane x) {
        x.tear(MISSING_ROW);
        x.at(ROW_OF_NONE, 0);
        x.at(ROW_OF_5, 5);
        for (int i = 0; i < 5; i++) {
            x.row(0, -1);
        }
        for (int i = 0; i < 4; i++) {
            x.mean(ROW_OF_NONE);
        }
    }

    /** Six SHOPS of all KINDS after 4 DEEDS, LANES kept after 1 and after 3, a chance told. */
    static PawnLane busy() {
        PawnLane x = noShops();
        x.lane(LANE_TEXT);
        x.give(2, 1);
        x.keep(KEPT_1);
        x.week();
        x.pawn(2, 5, 3);
        x.keep(KEPT_3);
        x.give(3, 2);
        x.odds(3);
        return x;
    }

    /** As busy(), with 40 DEEDS. */
    static PawnLane full() {
        PawnLane x = busy();
        while (x.count(2) < 40) {
            x.give(4, 1);
        }
        return x;
    }

    /** As full(), one DEED short of it. */
    static PawnLane nearlyFull() {
        PawnLane x = full();
        x.undo(39);
        return x;
    }

    /** A LANE as read, no DEEDS, nothing kept. */
    static PawnLane justRead() {
        PawnLane x = noShops();
        x.lane(LANE_TEXT);
        return x;
    }
}
