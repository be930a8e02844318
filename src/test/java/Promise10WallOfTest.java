/**
 * Promise 10, wallOf: "The WALL of a SIDE in which a CELL is that is INSIDE; -2: it is in none. NONE: 1
 * (CELL, SIDE); 5 (it isn't INSIDE)."
 */
public final class Promise10WallOfTest {
    public static void main(String[] args) {
        everyCellOfAWall();
        inNone();
        isNotInside();
        noSuchCell();
        noSuchSide();
        noneSuchIsToldAheadOfNotInside();
        behindAnAct();
        noHouse();
        Check.end();
    }

    private static void everyCellOfAWall() {
        EaveRoofs x = Check.house("house xxxx/xoox");
        int[][] want = {
            {0, 0, 0, 0}, {3, 0, 0, 0}, {0, 1, 1, 1}, {3, 0, 1, 2}, {3, 1, 1, 2},
            {1, 0, 2, 3}, {2, 0, 2, 3}, {0, 1, 2, 4}, {3, 1, 2, 5}, {0, 0, 3, 6}, {0, 1, 3, 6}, {3, 1, 3, 7}};
        for (int[] at : want) {
            Check.taken("wallOf(" + at[0] + ", " + at[1] + ", " + at[2] + ")", x, x.wallOf(at[0], at[1], at[2]), at[3]);
        }
        EaveRoofs y = Check.house(Check.chequered(14, 10));
        Check.taken("the last", y, y.wallOf(13, 9, 3), 279);
    }

    private static void inNone() {
        EaveRoofs x = Check.house("house xxxx/xoox");
        Check.taken("wallOf(0, 0, 1)", x, x.wallOf(0, 0, 1), -2);
        Check.taken("wallOf(0, 0, 2)", x, x.wallOf(0, 0, 2), -2);
        Check.taken("wallOf(0, 1, 0)", x, x.wallOf(0, 1, 0), -2);
        Check.taken("wallOf(3, 0, 3)", x, x.wallOf(3, 0, 3), -2);
        EaveRoofs y = Check.house("house xxx/xxx/xxx");
        for (int side = 0; side < 4; side++) {
            Check.taken("the middle", y, y.wallOf(1, 1, side), -2);
        }
    }

    private static void isNotInside() {
        EaveRoofs x = Check.house("house xxx/xox/xxx");
        for (int side = 0; side < 4; side++) {
            Check.refused("wallOf(1, 1, " + side + ")", x, x.wallOf(1, 1, side), 5);
        }
    }

    private static void noSuchCell() {
        EaveRoofs x = Check.house("house xxx/xox/xxx");
        int[][] beyond = {{-1, 0}, {3, 0}, {0, -1}, {0, 3}, {Integer.MAX_VALUE, 0}, {0, Integer.MIN_VALUE}};
        for (int[] at : beyond) {
            Check.refused("wallOf(" + at[0] + ", " + at[1] + ", 0)", x, x.wallOf(at[0], at[1], 0), 1);
        }
    }

    private static void noSuchSide() {
        EaveRoofs x = Check.house("house xxx/xox/xxx");
        int[] wrong = {-1, 4, Integer.MIN_VALUE, Integer.MAX_VALUE};
        for (int side : wrong) {
            Check.refused("wallOf(0, 0, " + side + ")", x, x.wallOf(0, 0, side), 1);
        }
    }

    private static void noneSuchIsToldAheadOfNotInside() {
        EaveRoofs x = Check.house("house xxx/xox/xxx");
        Check.refused("wallOf(1, 1, 4)", x, x.wallOf(1, 1, 4), 1);
        Check.refused("wallOf(1, 1, -1)", x, x.wallOf(1, 1, -1), 1);
    }

    private static void behindAnAct() {
        EaveRoofs x = Check.house("house xxx/xox/xxx");
        Check.taken("first", x, x.wallOf(1, 2, 0), 1);
        x.set(1, 1, true);
        Check.taken("behind an act", x, x.wallOf(1, 2, 0), -2);
        x.undo();
        Check.taken("undone", x, x.wallOf(1, 2, 0), 1);
    }

    private static void noHouse() {
        EaveRoofs x = new EaveRoofs();
        Check.refused("wallOf(0, 0, 0)", x, x.wallOf(0, 0, 0), 1);
    }
}
