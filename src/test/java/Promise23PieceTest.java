/**
 * Promise 23, piece: "AREA of the i-th PIECE (0: the first) at t (a by b, as above), the one that comes
 * farthest north first, of like ones that of which the part there lies farthest west: above (what 0),
 * below (1) in lowest terms. NONE: 1 (no HOUSE, i below 0, what); 2; 1 (no such PIECE)."
 */
public final class Promise23PieceTest {
    public static void main(String[] args) {
        farthestNorthFirst();
        ofLikeOnesFarthestWest();
        thePartThereCounts();
        theOrderLater();
        lowestTerms();
        theMostPieces();
        noSuchPiece();
        iBelowNoughtIsToldAheadOfWrongTimes();
        noSuchWhatIsToldAheadOfWrongTimes();
        wrongTimesAreToldAheadOfNoSuchPiece();
        behindAnAct();
        noHouse();
        Check.end();
    }

    /** All pieces at a time at which their areas are whole. */
    private static void all(String name, EaveRoofs x, int a, int b, int... want) {
        Check.eq(name + ": pieces", x.pieces(a, b), want.length);
        for (int i = 0; i < want.length; i++) {
            Check.taken(name + ": above, " + i, x, x.piece(a, b, i, 0), want[i]);
            Check.taken(name + ": below, " + i, x, x.piece(a, b, i, 1), 1);
        }
        Check.refused(name + ": one more", x, x.piece(a, b, want.length, 0), 1);
    }

    private static void farthestNorthFirst() {
        all("east, but north", Check.house("house oox/xoo/xoo"), 0, 1, 1, 2);
        all("four", Check.house("house xooxxoo/ooooxoo/oxxoooo/xxxxoox"), 0, 1, 1, 3, 6, 1);
    }

    private static void ofLikeOnesFarthestWest() {
        all("three columns", Check.house("house xoxox/xoxoo/ooxoo"), 0, 1, 2, 3, 1);
    }

    private static void thePartThereCounts() {
        // The winding one's north end lies to the west; then to the east, though its south end doesn't.
        all("winding", Check.house("house ooxox/xoxox/xxxox"), 0, 1, 6, 3);
        all("winding round", Check.house("house ooxox/xooox/xxxxx"), 0, 1, 1, 8);
        all("two ends north", Check.house("house xoxox/xoxxx/xoooo"), 0, 1, 3, 5);
        all("two ends round another", Check.house("house xoxox/xoxox/xxxox/oooox"), 0, 1, 7, 4);
        all("one within another's arms", Check.house("house xoxox/xooox/xxxxx"), 0, 1, 9, 1);
    }

    private static void theOrderLater() {
        // At 1/2 the neck closes; the east half comes farther north.
        EaveRoofs x = Check.house("house ooooxxx/xxxxxxx/xxxoxxx");
        all("at 0", x, 0, 1, 16);
        all("at 1/2", x, 1, 2, 4, 2);
        EaveRoofs y = Check.house("house xxxoxxx/xxxxxxx/xxxoxxo");
        all("at 1/2", y, 1, 2, 4, 3);
    }

    private static void lowestTerms() {
        EaveRoofs x = Check.house("house xxox");
        Check.taken("above", x, x.piece(2, 8, 0, 0), 3);
        Check.taken("below", x, x.piece(2, 8, 0, 1), 4);
        Check.taken("above", x, x.piece(2, 8, 1, 0), 1);
        Check.taken("below", x, x.piece(2, 8, 1, 1), 4);
        Check.taken("long", x, x.piece(4999, 9999, 1, 1), 9999L * 9999);
    }

    private static void theMostPieces() {
        EaveRoofs x = Check.house(Check.chequered(14, 10));
        Check.taken("the first", x, x.piece(0, 1, 0, 0), 1);
        Check.taken("the last", x, x.piece(0, 1, 69, 0), 1);
        Check.refused("one more", x, x.piece(0, 1, 70, 0), 1);
    }

    private static void noSuchPiece() {
        EaveRoofs x = Check.house("house xxox");
        Check.refused("third", x, x.piece(0, 1, 2, 0), 1);
        Check.refused("far beyond", x, x.piece(0, 1, Integer.MAX_VALUE, 1), 1);
        Check.refused("at the end", x, x.piece(1, 2, 0, 0), 1);
        Check.refused("long behind it", x, x.piece(9999, 1, 0, 1), 1);
    }

    private static void iBelowNoughtIsToldAheadOfWrongTimes() {
        EaveRoofs x = Check.house("house x");
        Check.refused("piece(0, 1, -1, 0)", x, x.piece(0, 1, -1, 0), 1);
        Check.refused("piece(-1, 1, -1, 0)", x, x.piece(-1, 1, -1, 0), 1);
        Check.refused("piece(0, 0, min, 0)", x, x.piece(0, 0, Integer.MIN_VALUE, 0), 1);
    }

    private static void noSuchWhatIsToldAheadOfWrongTimes() {
        EaveRoofs x = Check.house("house x");
        int[] wrong = {-1, 2, Integer.MIN_VALUE, Integer.MAX_VALUE};
        for (int what : wrong) {
            Check.refused("piece(0, 1, 0, " + what + ")", x, x.piece(0, 1, 0, what), 1);
            Check.refused("piece(0, 0, 0, " + what + ")", x, x.piece(0, 0, 0, what), 1);
        }
    }

    private static void wrongTimesAreToldAheadOfNoSuchPiece() {
        EaveRoofs x = Check.house("house x");
        for (int[] time : Times.WRONG) {
            Check.refused("piece(" + Times.of(time) + ", 0, 0)", x, x.piece(time[0], time[1], 0, 0), 2);
            Check.refused("piece(" + Times.of(time) + ", 99, 1)", x, x.piece(time[0], time[1], 99, 1), 2);
        }
        for (int[] time : Times.BOUNDS) {
            boolean there = x.piece(time[0], time[1], 0, 0) > 0;
            Check.yes("piece(" + Times.of(time) + ", 0, 0)", there == (time[2] > 0));
            Check.eq("piece(" + Times.of(time) + ", 0, 0), trouble()", x.trouble(), 1 - time[2]);
        }
    }

    private static void behindAnAct() {
        EaveRoofs x = Check.house("house xxxx");
        x.set(1, 0, false);
        all("cut", x, 0, 1, 1, 2);
        x.undo();
        all("undone", x, 0, 1, 4);
    }

    private static void noHouse() {
        EaveRoofs x = new EaveRoofs();
        Check.refused("piece(0, 1, 0, 0)", x, x.piece(0, 1, 0, 0), 1);
        Check.refused("piece(-1, 1, 0, 0)", x, x.piece(-1, 1, 0, 0), 1);
    }
}
