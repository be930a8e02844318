/**
 * Promise 9, wall: "Of a WALL 0 SIDE, 1 x, 2 y of its first CELL (that is INSIDE), 3 how many CELLS.
 * NONE: 1 (what, too)." With the Terms, II: which WALLS there are, and their order.
 */
public final class Promise09WallTest {
    public static void main(String[] args) {
        aRoundOfFour();
        aYardHasWallsToo();
        stretchesAreAsLongAsCanBe();
        ofOneRowFromTheWestOfOneColumnFromTheNorth();
        theMostWalls();
        theLongestWalls();
        behindAnAct();
        noSuchWall();
        noSuchWhat();
        noHouse();
        Check.end();
    }

    private static void all(String name, EaveRoofs x, int[][] want) {
        Check.eq(name + ": about(3)", x.about(3), want.length);
        for (int i = 0; i < want.length; i++) {
            for (int what = 0; what < 4; what++) {
                Check.taken(name + ": wall(" + i + ", " + what + ")", x, x.wall(i, what), want[i][what]);
            }
        }
        Check.refused(name + ": one more", x, x.wall(want.length, 0), 1);
    }

    private static void aRoundOfFour() {
        all("one cell", Check.house("house x"), new int[][] {{0, 0, 0, 1}, {1, 0, 0, 1}, {2, 0, 0, 1}, {3, 0, 0, 1}});
    }

    private static void aYardHasWallsToo() {
        all("ring", Check.house("house xxx/xox/xxx"), new int[][] {
            {0, 0, 0, 3}, {0, 1, 2, 1},
            {1, 0, 1, 1}, {1, 2, 0, 3},
            {2, 1, 0, 1}, {2, 0, 2, 3},
            {3, 0, 0, 3}, {3, 2, 1, 1}});
    }

    private static void stretchesAreAsLongAsCanBe() {
        all("table", Check.house("house xxxx/xoox"), new int[][] {
            {0, 0, 0, 4},
            {1, 0, 1, 1}, {1, 3, 0, 2},
            {2, 1, 0, 2}, {2, 0, 1, 1}, {2, 3, 1, 1},
            {3, 0, 0, 2}, {3, 3, 1, 1}});
    }

    private static void ofOneRowFromTheWestOfOneColumnFromTheNorth() {
        all("cross cut", Check.house("house xox/xxx/xox"), new int[][] {
            {0, 0, 0, 1}, {0, 2, 0, 1}, {0, 1, 1, 1},
            {1, 0, 0, 1}, {1, 0, 2, 1}, {1, 2, 0, 3},
            {2, 1, 1, 1}, {2, 0, 2, 1}, {2, 2, 2, 1},
            {3, 0, 0, 3}, {3, 2, 0, 1}, {3, 2, 2, 1}});
    }

    private static void theMostWalls() {
        EaveRoofs x = Check.house(Check.chequered(14, 10));
        Check.eq("about(3)", x.about(3), 280);
        Check.taken("last of the north: SIDE", x, x.wall(69, 0), 0);
        Check.taken("first of the east: SIDE", x, x.wall(70, 0), 1);
        Check.taken("last: SIDE", x, x.wall(279, 0), 3);
        Check.taken("last: x", x, x.wall(279, 1), 13);
        Check.taken("last: y", x, x.wall(279, 2), 9);
        Check.taken("last: CELLS", x, x.wall(279, 3), 1);
        Check.refused("wall(280, 0)", x, x.wall(280, 0), 1);
    }

    private static void theLongestWalls() {
        all("full", Check.house(Check.full(14, 10)), new int[][] {
            {0, 0, 0, 14}, {1, 13, 0, 10}, {2, 0, 9, 14}, {3, 0, 0, 10}});
    }

    private static void behindAnAct() {
        EaveRoofs x = Check.house("house xx");
        Check.taken("first", x, x.wall(0, 3), 2);
        x.set(0, 0, false);
        Check.taken("shorter", x, x.wall(0, 3), 1);
        Check.taken("from", x, x.wall(0, 1), 1);
        x.undo();
        Check.taken("undone", x, x.wall(0, 3), 2);
    }

    private static void noSuchWall() {
        EaveRoofs x = Check.house("house x");
        int[] wrong = {-1, 4, Integer.MIN_VALUE, Integer.MAX_VALUE, 1 << 30};
        for (int i : wrong) {
            Check.refused("wall(" + i + ", 0)", x, x.wall(i, 0), 1);
        }
    }

    private static void noSuchWhat() {
        EaveRoofs x = Check.house("house xxx/xox/xxx");
        int[] wrong = {-1, 4, Integer.MIN_VALUE, Integer.MAX_VALUE};
        for (int what : wrong) {
            Check.refused("wall(1, " + what + ")", x, x.wall(1, what), 1);
        }
    }

    private static void noHouse() {
        EaveRoofs x = new EaveRoofs();
        Check.refused("wall(0, 0)", x, x.wall(0, 0), 1);
    }
}
