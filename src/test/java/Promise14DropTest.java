/**
 * Promise 14, drop: "The WALL to which a DROP runs; -2: it has no HEIGHT above 0. NONE: 1; 2." With the
 * Terms, II: to which WALL a DROP runs.
 */
public final class Promise14DropTest {
    public static void main(String[] args) {
        noHeight();
        byTheLeastSide();
        theFirstFromTheWest();
        theFirstByRows();
        onlyCellsThatHaveAWall();
        byTheNextSideIfNoneHasAWall();
        notToAWallFartherOff();
        noWallInTheGreatestFrames();
        behindAnAct();
        noPoint();
        noHouse();
        Check.end();
    }

    private static void noHeight() {
        EaveRoofs x = Check.house("house xo/ox");
        Check.taken("a rim", x, x.drop(0, 2), -2);
        Check.taken("a corner", x, x.drop(4, 4), -2);
        Check.taken("not inside", x, x.drop(6, 2), -2);
        Check.taken("the frame's corner", x, x.drop(8, 8), -2);
    }

    private static void byTheLeastSide() {
        EaveRoofs x = Check.house("house xx/xx");
        Check.taken("middle", x, x.drop(4, 4), 0);
        Check.taken("north-west", x, x.drop(1, 1), 0);
        Check.taken("north-east", x, x.drop(7, 1), 0);
        Check.taken("south-east", x, x.drop(7, 7), 1);
        Check.taken("south-west", x, x.drop(1, 7), 2);
        Check.taken("south", x, x.drop(4, 7), 2);
        Check.taken("west", x, x.drop(1, 4), 3);
    }

    /** Two cells to the north-west and the north-east, as far both; each has a wall of its own. */
    private static void theFirstFromTheWest() {
        EaveRoofs x = Check.house("house oxo/xxx");
        Check.eq("the west one's wall", x.wallOf(0, 1, 0), 1);
        Check.eq("the east one's wall", x.wallOf(2, 1, 0), 2);
        Check.taken("drop(6, 6)", x, x.drop(6, 6), 1);
        Check.taken("nearer to the east one", x, x.drop(7, 6), 2);
        Check.taken("nearer to the west one", x, x.drop(5, 6), 1);
    }

    /** Two cells to the west, as far both, one to the north of the other. */
    private static void theFirstByRows() {
        EaveRoofs x = Check.house("house oxx/xxx/oxx;speed 2,1,2,1");
        Check.taken("slopes", x, x.slopes(6, 6), 8);
        Check.taken("drop(6, 6)", x, x.drop(6, 6), x.wallOf(1, 0, 3));
        Check.yes("two walls", x.wallOf(1, 0, 3) != x.wallOf(1, 2, 3));
    }

    /** Of two cells to the north the one from the west has none inside to its south. */
    private static void onlyCellsThatHaveAWall() {
        EaveRoofs x = Check.house("house oxo/oxx");
        Check.taken("slopes", x, x.slopes(6, 6), 15);
        Check.taken("drop(6, 6)", x, x.drop(6, 6), 1);
        Check.eq("which is", x.wallOf(2, 1, 0), 1);
    }

    private static void byTheNextSideIfNoneHasAWall() {
        EaveRoofs x = Check.house("house xxxx/xoxx/xoxx/xxxx");
        Check.taken("slopes north and west", x, x.slopes(10, 10), 9);
        Check.taken("drop(10, 10)", x, x.drop(10, 10), x.wallOf(2, 1, 3));
        Check.taken("slopes south and west", x, x.slopes(10, 6), 12);
        Check.taken("drop(10, 6)", x, x.drop(10, 6), x.wallOf(2, 1, 3));
        EaveRoofs y = Check.house("house xxxx/xxox/xxox/xxxx");
        Check.taken("slopes north and east", y, y.slopes(6, 10), 3);
        Check.taken("drop(6, 10)", y, y.drop(6, 10), y.wallOf(1, 1, 1));
    }

    /** In the row, the column of a cell without a wall stand others that have one, but too far off. */
    private static void notToAWallFartherOff() {
        EaveRoofs x = Check.house("house xxxxxxx/xoxxoxx/xoxxxxx/xxxxxxx");
        Check.taken("farther east", x, x.drop(10, 10), x.wallOf(2, 1, 3));
        EaveRoofs y = Check.house("house xxxxxxx/xxoxxox/xxxxxox/xxxxxxx");
        Check.taken("farther west", y, y.drop(18, 10), y.wallOf(4, 1, 1));
        EaveRoofs z = Check.house("house xxxox/xxxxx/xxxxx/xxoox/xxxox/xxxxx");
        Check.taken("slopes east and south", z, z.slopes(10, 10), 6);
        Check.taken("farther north, south", z, z.drop(10, 10), z.wallOf(2, 2, 2));
    }

    /** The same in the widest and in the highest frame, where another wall lies at the row's other end. */
    private static void noWallInTheGreatestFrames() {
        EaveRoofs x = Check.house("house xxxxxxxxxxxxxo/xoxxxxxxxxxxxx/xoxxxxxxxxxxxx/xxxxxxxxxxxxxx");
        Check.taken("slopes north and west", x, x.slopes(10, 10), 9);
        Check.taken("14 wide", x, x.drop(10, 10), x.wallOf(2, 1, 3));
        EaveRoofs y = Check.house("house xxxxx/xxxxx/xxxxx/xxoox/xxxxx/xxxxx/xxxxx/xxxxx/xxoxx/xxxxx");
        Check.taken("slopes east and south", y, y.slopes(10, 10), 6);
        Check.taken("10 high", y, y.drop(10, 10), y.wallOf(2, 2, 2));
    }

    private static void behindAnAct() {
        EaveRoofs x = Check.house("house xxx/xxx/xxx");
        Check.taken("first", x, x.drop(6, 5), 0);
        x.set(1, 0, false);
        Check.taken("behind an act", x, x.drop(6, 5), x.wallOf(1, 1, 0));
        x.undo();
        Check.taken("undone", x, x.drop(6, 5), 0);
        x.runs(2, 9);
        Check.taken("south runs", x, x.drop(6, 5), 2);
    }

    private static void noPoint() {
        EaveRoofs x = Check.house("house xx");
        int[][] beyond = {{-1, 0}, {9, 0}, {0, -1}, {0, 5}, {Integer.MIN_VALUE, 0}, {Integer.MAX_VALUE, 0},
            {0, Integer.MIN_VALUE}, {0, Integer.MAX_VALUE}};
        for (int[] at : beyond) {
            Check.refused("drop(" + at[0] + ", " + at[1] + ")", x, x.drop(at[0], at[1]), 2);
        }
        Check.taken("the last one", x, x.drop(8, 4), -2);
    }

    private static void noHouse() {
        EaveRoofs x = new EaveRoofs();
        Check.refused("drop(0, 0)", x, x.drop(0, 0), 1);
        Check.refused("drop(-1, 0)", x, x.drop(-1, 0), 1);
    }
}
