/**
 * Promise 18, highest: "The POINT of the greatest HEIGHT, of like ones the first by rows, from the west:
 * 0 from the west, 1 from the north. NONE: 1 (what, too)."
 */
public final class Promise18HighestTest {
    public static void main(String[] args) {
        theGreatest();
        ofLikeOnesTheFirstByRows();
        ofLikeOnesOfARowTheFirstFromTheWest();
        ofPointsAlone();
        theFrameAtItsBounds();
        behindAnAct();
        noSuchWhat();
        noHouse();
        Check.end();
    }

    private static void at(String name, EaveRoofs x, int px, int py) {
        Check.taken(name + ": highest(0)", x, x.highest(0), px);
        Check.taken(name + ": highest(1)", x, x.highest(1), py);
    }

    private static void theGreatest() {
        at("the greater of two", Check.house("house xxooxxx/xxooxxx/ooooxxx"), 22, 6);
        at("by speeds", Check.house("house xxxx/xxxx;speed 1,1,1,3"), 12, 4);
    }

    private static void ofLikeOnesTheFirstByRows() {
        at("the north one, though east", Check.house("house ox/xo"), 6, 2);
        at("a ridge to the south", Check.house("house x/x/x"), 2, 2);
    }

    private static void ofLikeOnesOfARowTheFirstFromTheWest() {
        at("two cells", Check.house("house xox"), 2, 2);
        at("a ridge to the east", Check.house("house xxx"), 2, 2);
    }

    /** The top is at a third of the cell, which is no point; one half of it and a quarter are as high. */
    private static void ofPointsAlone() {
        at("one cell", Check.house("house x;speed 2,1,1,1"), 1, 2);
    }

    private static void theFrameAtItsBounds() {
        at("full", Check.house(Check.full(14, 10)), 20, 20);
        at("the last cell alone", Check.house("house " + "oooooooooooooo/".repeat(9) + "ooooooooooooox"), 54, 38);
    }

    private static void behindAnAct() {
        EaveRoofs x = Check.house("house xxo");
        at("first", x, 2, 2);
        x.set(0, 0, false);
        at("behind an act", x, 6, 2);
        x.undo();
        at("undone", x, 2, 2);
    }

    private static void noSuchWhat() {
        EaveRoofs x = Check.house("house x");
        int[] wrong = {-1, 2, Integer.MIN_VALUE, Integer.MAX_VALUE};
        for (int what : wrong) {
            Check.refused("highest(" + what + ")", x, x.highest(what), 1);
        }
    }

    private static void noHouse() {
        EaveRoofs x = new EaveRoofs();
        Check.refused("highest(0)", x, x.highest(0), 1);
        Check.refused("highest(1)", x, x.highest(1), 1);
    }
}
