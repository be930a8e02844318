/** Promises 12 to 16, 18 to 20 and 26: heights, slopes, drops over points. */
public final class PointsTest {
    public static void main(String[] args) {
        noHouse();
        heights();
        slopes();
        drops();
        counts();
        highest();
        ranked();
        points();
        higher();
        Check.end();
    }

    private static void noHouse() {
        EaveRoofs x = new EaveRoofs();
        Check.refused("height", x, x.height(-1, -1, 9), 1);
        Check.refused("slopes", x, x.slopes(-1, -1), 1);
        Check.refused("drop", x, x.drop(-1, -1), 1);
        Check.refused("catches", x, x.catches(-1), 1);
        Check.refused("faces", x, x.faces(99), 1);
        Check.refused("highest", x, x.highest(9), 1);
        Check.refused("ranked", x, x.ranked(-1), 1);
        Check.refused("points", x, x.points(-1, 0), 1);
        Check.refused("higher", x, x.higher(0, 0), 1);
    }

    private static void heights() {
        // One cell; north runs at 1, east at 2, south at 3, west at 4.
        EaveRoofs x = Check.house("house x;speed 1,2,3,4");
        fraction(x, 1, 1, 1, 16);
        fraction(x, 2, 2, 1, 8);
        fraction(x, 3, 2, 1, 8);
        fraction(x, 3, 3, 1, 12);
        fraction(x, 0, 2, 0, 1);
        fraction(x, 4, 4, 0, 1);
        // At the corner of a yard the greater of two times counts.
        EaveRoofs y = Check.house("house xxxxx/xxxxx/xxoxx/xxxxx/xxxxx;speed 1,1,1,2");
        fraction(y, 15, 15, 3, 4);
        fraction(y, 14, 13, 1, 4);
        fraction(y, 14, 7, 1, 4);
        fraction(y, 9, 9, 0, 1);
        fraction(y, 8, 12, 0, 1);
        // A diagonal touch has no height.
        fraction(Check.house("house xo/ox"), 4, 4, 0, 1);
        // The widest: 7 cells to both sides, speed 9.
        fraction(Check.house("house xxxxxxxxxxxxxx;speed 1,9,1,9"), 28, 2, 1, 2);
        fraction(Check.house("house x/x/x/x/x/x/x/x/x/x;speed 1,9,1,9"), 2, 20, 1, 18);
        badPoints(x);
    }

    private static void badPoints(EaveRoofs x) {
        int[][] bad = {{-1, 0}, {0, -1}, {5, 0}, {0, 5}, {Integer.MAX_VALUE, 0}, {0, Integer.MIN_VALUE}};
        for (int[] at : bad) {
            Check.refused("height", x, x.height(at[0], at[1], 0), 2);
            Check.refused("height", x, x.height(at[0], at[1], 2), 1);
            Check.refused("slopes", x, x.slopes(at[0], at[1]), 2);
            Check.refused("drop", x, x.drop(at[0], at[1]), 2);
        }
        Check.refused("height", x, x.height(0, 0, -1), 1);
        Check.refused("height", x, x.height(0, 0, 2), 1);
    }

    private static void fraction(EaveRoofs x, int px, int py, int above, int below) {
        Check.taken("height(" + px + ", " + py + ", 0)", x, x.height(px, py, 0), above);
        Check.taken("height(" + px + ", " + py + ", 1)", x, x.height(px, py, 1), below);
    }

    private static void slopes() {
        EaveRoofs x = Check.house("house xx/xx");
        Check.taken("middle", x, x.slopes(4, 4), 15);
        Check.taken("north", x, x.slopes(4, 1), 1);
        Check.taken("east", x, x.slopes(7, 4), 2);
        Check.taken("south", x, x.slopes(4, 7), 4);
        Check.taken("west", x, x.slopes(1, 4), 8);
        // The cell beyond the corner is as far to the north as to the east, and counts for both.
        Check.taken("north-west", x, x.slopes(2, 2), 15);
        Check.taken("north-west, nearer", x, x.slopes(1, 1), 9);
        Check.taken("rim", x, x.slopes(0, 4), 0);
        // By a yard's corner it slopes both ways, though each row's nearer cell is another one.
        EaveRoofs y = Check.house("house xxxxxxx/xxxxxxx/xxxxxxx/xxxoxxx/xxxxxxx/xxxxxxx/xxxxxxx");
        Check.taken("a corner", y, y.slopes(18, 18), 9);
        Check.taken("a corner's north", y, y.slopes(17, 18), 1);
        Check.taken("a corner's west", y, y.slopes(18, 17), 8);
    }

    private static void drops() {
        EaveRoofs x = Check.house("house xx/xx");
        Check.taken("middle", x, x.drop(4, 4), 0);
        Check.taken("north-west", x, x.drop(2, 2), 0);
        Check.taken("south-east", x, x.drop(6, 6), 1);
        Check.taken("south-west", x, x.drop(2, 6), 2);
        Check.taken("west", x, x.drop(1, 4), 3);
        Check.taken("rim", x, x.drop(8, 8), -2);
        // Several cells touched: the first by rows, from the west.
        EaveRoofs y = Check.house("house xox/xxx/xox");
        Check.taken("between", y, y.drop(6, 6), 2);
        Check.eq("its x", y.wall(2, 1), 1);
        // Slopes north by a corner whose cell has no wall of the north: the next side's wall.
        EaveRoofs z = Check.house("house xxxx/xoxx/xoxx/xxxx");
        Check.taken("slopes", z, z.slopes(10, 10), 9);
        Check.taken("drop", z, z.drop(10, 10), z.wallOf(2, 1, 3));
    }

    private static void counts() {
        EaveRoofs x = Check.house("house xx");
        int all = 0;
        for (int set = 0; set < 16; set++) {
            all += x.faces(set);
        }
        Check.eq("all points", all, 45);
        Check.taken("flat", x, x.faces(0), 24);
        Check.taken("north and south", x, x.faces(5), 3);
        Check.taken("all sides", x, x.faces(15), 2);
        Check.refused("faces(-1)", x, x.faces(-1), 2);
        Check.refused("faces(16)", x, x.faces(16), 2);
        int caught = 0;
        for (int i = 0; i < 4; i++) {
            caught += x.catches(i);
        }
        Check.eq("all caught", caught, 21);
        Check.taken("catches(0)", x, x.catches(0), 12);
        Check.refused("catches(4)", x, x.catches(4), 1);
        Check.refused("catches(-1)", x, x.catches(-1), 1);
        x.runs(0, 3);
        Check.eq("catches behind an act", x.catches(0) > 12 ? 1 : 0, 1);
        x.undo();
        Check.taken("catches undone", x, x.catches(0), 12);
    }

    private static void highest() {
        EaveRoofs x = Check.house("house xxooxxx/xxooxxx/ooooxxx");
        Check.taken("from the west", x, x.highest(0), 22);
        Check.taken("from the north", x, x.highest(1), 6);
        EaveRoofs y = Check.house("house ox/xo");
        Check.taken("like ones, by rows", y, y.highest(0), 6);
        Check.taken("like ones, by rows", y, y.highest(1), 2);
        Check.refused("highest(2)", y, y.highest(2), 1);
        Check.refused("highest(-1)", y, y.highest(-1), 1);
    }

    private static void ranked() {
        EaveRoofs x = Check.house("house xxx/xxx/xxx;mark 0,0;mark 4,4;mark 6,6;mark 8,8;mark 12,3;mark 6,6");
        int[] want = {2, 5, 1, 3, 0, 4};
        for (int i = 0; i < want.length; i++) {
            Check.taken("ranked " + i, x, x.ranked(i), want[i]);
        }
        Check.refused("ranked(6)", x, x.ranked(6), 1);
        Check.refused("ranked(-1)", x, x.ranked(-1), 1);
        EaveRoofs y = Check.house("house x");
        Check.refused("without marks", y, y.ranked(0), 1);
    }

    private static void points() {
        EaveRoofs x = Check.house("house x");
        Check.taken("above 0", x, x.points(0, 9999), 9);
        Check.taken("above a bit less than a quarter", x, x.points(2499, 9999), 9);
        Check.taken("above a quarter", x, x.points(1, 4), 1);
        Check.taken("above a half", x, x.points(1, 2), 0);
        Check.taken("above much", x, x.points(9999, 1), 0);
        int[][] bad = {{-1, 1}, {10000, 1}, {0, 0}, {0, -1}, {0, 10000}, {Integer.MIN_VALUE, Integer.MIN_VALUE}};
        for (int[] t : bad) {
            Check.refused("points", x, x.points(t[0], t[1]), 2);
        }
    }

    private static void higher() {
        EaveRoofs x = Check.house("house xx/xx;mark 4,4;mark 2,2;mark 6,2");
        Check.taken("higher", x, x.higher(0, 1), 1);
        Check.taken("lower", x, x.higher(2, 0), -2);
        Check.taken("like", x, x.higher(1, 2), 0);
        Check.taken("itself", x, x.higher(1, 1), 0);
        Check.refused("higher(0, 3)", x, x.higher(0, 3), 1);
        Check.refused("higher(3, 0)", x, x.higher(3, 0), 1);
        Check.refused("higher(-1, 0)", x, x.higher(-1, 0), 1);
        Check.refused("higher(0, -1)", x, x.higher(0, -1), 1);
    }
}
