/**
 * Promise 13, slopes: "SIDES to which it SLOPES, as bits (north 1, east 2, ..). NONE: 1; 2." With the
 * Terms, II: "if it has a HEIGHT above 0 and to some CELL of that REACH this SIDE's time is that".
 */
public final class Promise13SlopesTest {
    public static void main(String[] args) {
        oneSideEach();
        severalSides();
        toNoneWithoutAHeight();
        byACellAcrossACorner();
        byTheSpeeds();
        behindAnAct();
        noPoint();
        noHouse();
        Check.end();
    }

    private static void oneSideEach() {
        EaveRoofs x = Check.house("house xx/xx");
        Check.taken("north", x, x.slopes(4, 1), 1);
        Check.taken("east", x, x.slopes(7, 4), 2);
        Check.taken("south", x, x.slopes(4, 7), 4);
        Check.taken("west", x, x.slopes(1, 4), 8);
    }

    private static void severalSides() {
        EaveRoofs x = Check.house("house xxxx/xxxx/xxxx");
        Check.taken("north, west", x, x.slopes(1, 1), 9);
        Check.taken("north, east", x, x.slopes(15, 1), 3);
        Check.taken("east, south", x, x.slopes(15, 11), 6);
        Check.taken("south, west", x, x.slopes(1, 11), 12);
        Check.taken("ridge", x, x.slopes(8, 6), 5);
        // At the ridge's end a cell north of the frame is as far to the east as to the north.
        Check.taken("ridge's end", x, x.slopes(6, 6), 15);
        Check.taken("ahead of it", x, x.slopes(5, 6), 8);
        EaveRoofs y = Check.house("house x");
        Check.taken("all", y, y.slopes(2, 2), 15);
    }

    private static void toNoneWithoutAHeight() {
        EaveRoofs x = Check.house("house xo/ox");
        Check.taken("a rim", x, x.slopes(0, 2), 0);
        Check.taken("a corner", x, x.slopes(4, 4), 0);
        Check.taken("not inside", x, x.slopes(6, 2), 0);
        Check.taken("the frame's corner", x, x.slopes(8, 8), 0);
    }

    private static void byACellAcrossACorner() {
        EaveRoofs x = Check.house("house xxxxxxx/xxxxxxx/xxxxxxx/xxxoxxx/xxxxxxx/xxxxxxx/xxxxxxx");
        Check.taken("south-east of it", x, x.slopes(18, 18), 9);
        Check.taken("more to the south", x, x.slopes(17, 18), 1);
        Check.taken("more to the east", x, x.slopes(18, 17), 8);
        Check.taken("north-west of it", x, x.slopes(10, 10), 6);
        Check.taken("north-east of it", x, x.slopes(18, 10), 12);
        Check.taken("south-west of it", x, x.slopes(10, 18), 3);
    }

    private static void byTheSpeeds() {
        EaveRoofs x = Check.house("house xxx/xxx/xxx;speed 1,2,3,4");
        // From a quarter north of the middle: north 5/4, east 3/4, south 7/12, west 3/8.
        Check.taken("west", x, x.slopes(6, 5), 8);
        // 8 quarters from the west, 4 from the east: both a half.
        Check.taken("east, west", x, x.slopes(8, 4), 10);
        // 6 quarters from the south, by 3, too; and a cell to the east is 2 quarters to the north.
        Check.taken("all", x, x.slopes(8, 6), 15);
        Check.taken("south", x, x.slopes(7, 8), 4);
    }

    private static void behindAnAct() {
        EaveRoofs x = Check.house("house xx/xx");
        Check.taken("first", x, x.slopes(4, 4), 15);
        x.runs(2, 3);
        Check.taken("south runs", x, x.slopes(4, 4), 4);
        x.undo();
        Check.taken("undone", x, x.slopes(4, 4), 15);
    }

    private static void noPoint() {
        EaveRoofs x = Check.house("house xx");
        int[][] beyond = {{-1, 0}, {9, 0}, {0, -1}, {0, 5}, {Integer.MIN_VALUE, 0}, {Integer.MAX_VALUE, 0},
            {0, Integer.MIN_VALUE}, {0, Integer.MAX_VALUE}};
        for (int[] at : beyond) {
            Check.refused("slopes(" + at[0] + ", " + at[1] + ")", x, x.slopes(at[0], at[1]), 2);
        }
        Check.taken("the last one", x, x.slopes(8, 4), 0);
    }

    private static void noHouse() {
        EaveRoofs x = new EaveRoofs();
        Check.refused("slopes(0, 0)", x, x.slopes(0, 0), 1);
        Check.refused("slopes(-1, 0)", x, x.slopes(-1, 0), 1);
    }
}
