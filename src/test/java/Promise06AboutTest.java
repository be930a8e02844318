/**
 * Promise 6, about: "0 WIDE, 1 HIGH, 2 CELLS that are INSIDE, 3 WALLS, 4 MARKS, 5 EVENTS, 6 PIECES at 0,
 * 7 ACTS that can be undone. NONE: 1 (no HOUSE, what)."
 */
public final class Promise06AboutTest {
    public static void main(String[] args) {
        eachWhat();
        theLeast();
        theMost();
        piecesThatTouchByACornerAreTwo();
        actsUpToTen();
        behindActs();
        whatBelowAndAbove();
        noHouse();
        Check.end();
    }

    private static void all(String name, EaveRoofs x, int... want) {
        for (int what = 0; what < 8; what++) {
            Check.taken(name + ": about(" + what + ")", x, x.about(what), want[what]);
        }
    }

    private static void eachWhat() {
        all("three pieces", Check.house("house xxoo/ooxo/oxoo;mark 0,0;mark 16,12"), 4, 3, 4, 12, 2, 1, 3, 0);
    }

    private static void theLeast() {
        all("one cell", Check.house("house x"), 1, 1, 1, 4, 0, 1, 1, 0);
    }

    private static void theMost() {
        all("chequered", Check.house(Check.chequered(14, 10) + ";mark 1,1".repeat(8)), 14, 10, 70, 280, 8, 1, 70, 0);
        all("full", Check.house(Check.full(14, 10)), 14, 10, 140, 4, 0, 1, 1, 0);
    }

    private static void piecesThatTouchByACornerAreTwo() {
        Check.eq("by a corner", Check.house("house xo/ox").about(6), 2);
        Check.eq("by a rim", Check.house("house xx/ox").about(6), 1);
    }

    private static void actsUpToTen() {
        EaveRoofs x = Check.house("house x");
        for (int act = 1; act <= 12; act++) {
            x.grow();
            Check.taken("behind act " + act, x, x.about(7), Math.min(act, 10));
        }
        x.undo();
        Check.taken("one undone", x, x.about(7), 9);
    }

    private static void behindActs() {
        EaveRoofs x = Check.house("house xxo/oox/oxo");
        all("first", x, 3, 3, 4, 12, 0, 1, 3, 0);
        x.grow();
        all("grown", x, 3, 3, 9, 4, 0, 1, 1, 1);
        x.undo();
        all("undone", x, 3, 3, 4, 12, 0, 1, 3, 0);
    }

    private static void whatBelowAndAbove() {
        EaveRoofs x = Check.house("house x");
        int[] wrong = {-1, 8, Integer.MIN_VALUE, Integer.MAX_VALUE};
        for (int what : wrong) {
            Check.refused("about(" + what + ")", x, x.about(what), 1);
        }
    }

    private static void noHouse() {
        EaveRoofs x = new EaveRoofs();
        for (int what = -1; what <= 8; what++) {
            Check.refused("about(" + what + ")", x, x.about(what), 1);
        }
    }
}
