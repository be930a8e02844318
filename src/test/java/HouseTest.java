/** Promises 6 to 11, 17 and 34: the house and its walls. */
public final class HouseTest {
    public static void main(String[] args) {
        noHouse();
        about();
        cells();
        speeds();
        walls();
        mostWalls();
        wallOf();
        marks();
        rims();
        rows();
        Check.end();
    }

    private static void noHouse() {
        EaveRoofs x = new EaveRoofs();
        Check.refused("about(7)", x, x.about(7), 1);
        Check.refused("cell", x, x.cell(0, 0), 1);
        Check.refused("speed", x, x.speed(0), 1);
        Check.refused("wall", x, x.wall(0, 0), 1);
        Check.refused("wallOf", x, x.wallOf(0, 0, 0), 1);
        Check.refused("mark", x, x.mark(0, 0), 1);
        Check.refused("rim", x, x.rim(0), 1);
        Check.eq("row", Check.row(x, 0), -9);
    }

    private static void about() {
        EaveRoofs x = Check.house("house xxo/oox/oxo;mark 0,0;mark 12,12");
        Check.taken("WIDE", x, x.about(0), 3);
        Check.taken("HIGH", x, x.about(1), 3);
        Check.taken("CELLS", x, x.about(2), 4);
        Check.taken("WALLS", x, x.about(3), 12);
        Check.taken("MARKS", x, x.about(4), 2);
        Check.taken("EVENTS", x, x.about(5), 1);
        Check.taken("PIECES", x, x.about(6), 3);
        Check.taken("ACTS", x, x.about(7), 0);
        x.grow();
        Check.taken("ACTS", x, x.about(7), 1);
        Check.taken("CELLS grown", x, x.about(2), 9);
        Check.taken("WALLS grown", x, x.about(3), 4);
        Check.refused("about(-1)", x, x.about(-1), 1);
        Check.refused("about(8)", x, x.about(8), 1);
        Check.refused("about(max)", x, x.about(Integer.MAX_VALUE), 1);
    }

    private static void cells() {
        EaveRoofs x = Check.house("house xo/ox/xx");
        int[][] want = {{1, 0}, {0, 1}, {1, 1}};
        for (int y = 0; y < 3; y++) {
            for (int i = 0; i < 2; i++) {
                Check.taken("cell", x, x.cell(i, y), want[y][i]);
            }
        }
        int[][] beyond = {{-1, 0}, {0, -1}, {2, 0}, {0, 3}, {Integer.MIN_VALUE, 0}, {0, Integer.MAX_VALUE}};
        for (int[] at : beyond) {
            Check.refused("cell beyond", x, x.cell(at[0], at[1]), 1);
        }
    }

    private static void speeds() {
        EaveRoofs x = Check.house("house x;speed 9,8,7,6");
        for (int side = 0; side < 4; side++) {
            Check.taken("speed", x, x.speed(side), 9 - side);
        }
        Check.refused("speed(4)", x, x.speed(4), 1);
        Check.refused("speed(-1)", x, x.speed(-1), 1);
    }

    private static void walls() {
        // A ring round a yard: each side has an outer wall and, within, the yard's.
        EaveRoofs x = Check.house("house xxx/xox/xxx");
        int[][] want = {
            {0, 0, 0, 3}, {0, 1, 2, 1},
            {1, 0, 1, 1}, {1, 2, 0, 3},
            {2, 1, 0, 1}, {2, 0, 2, 3},
            {3, 0, 0, 3}, {3, 2, 1, 1}};
        Check.eq("about(3)", x.about(3), want.length);
        for (int i = 0; i < want.length; i++) {
            for (int what = 0; what < 4; what++) {
                Check.taken("wall(" + i + ", " + what + ")", x, x.wall(i, what), want[i][what]);
            }
        }
        Check.refused("wall(8, 0)", x, x.wall(8, 0), 1);
        Check.refused("wall(-1, 0)", x, x.wall(-1, 0), 1);
        Check.refused("wall(0, 4)", x, x.wall(0, 4), 1);
        Check.refused("wall(0, -1)", x, x.wall(0, -1), 1);
        // Of one row from the west; of one column from the north.
        EaveRoofs y = Check.house("house xox/xxx/xox");
        Check.eq("two in a row", y.wall(1, 1), 2);
        Check.eq("third below", y.wall(2, 2), 1);
        Check.eq("a column's second", y.wall(4, 2), 2);
        Check.eq("a column's second, x", y.wall(4, 1), 0);
    }

    /** A chequered frame has the most walls there can be. */
    private static void mostWalls() {
        StringBuilder text = new StringBuilder("house xoxoxoxoxoxoxo");
        for (int y = 1; y < 10; y++) {
            text.append(y % 2 == 0 ? "/xoxoxoxoxoxoxo" : "/oxoxoxoxoxoxox");
        }
        EaveRoofs x = Check.house(text.toString());
        Check.eq("walls", x.about(3), 280);
        Check.eq("pieces", x.about(6), 70);
        Check.eq("last wall's side", x.wall(279, 0), 3);
        Check.eq("last wall's x", x.wall(279, 1), 13);
        Check.eq("last wall's y", x.wall(279, 2), 9);
        Check.eq("it catches", x.catches(279), 1);
        Check.eq("one catches more", x.catches(0), 4);
        Check.refused("wall 280", x, x.wall(280, 0), 1);
        Check.eq("ends", x.event(0, 2), 70);
        x.grow();
        Check.eq("grown walls", x.about(3), 4);
        Check.eq("grown rim", x.rim(0), 14);
    }

    private static void wallOf() {
        EaveRoofs x = Check.house("house xxx/xox/xxx");
        Check.taken("wallOf(2, 0, 0)", x, x.wallOf(2, 0, 0), 0);
        Check.taken("wallOf(1, 2, 0)", x, x.wallOf(1, 2, 0), 1);
        Check.taken("wallOf(0, 2, 0)", x, x.wallOf(0, 2, 0), -2);
        Check.taken("wallOf(2, 1, 3)", x, x.wallOf(2, 1, 3), 7);
        Check.refused("wallOf(1, 1, 0)", x, x.wallOf(1, 1, 0), 5);
        Check.refused("wallOf(1, 1, 4)", x, x.wallOf(1, 1, 4), 1);
        Check.refused("wallOf(0, 0, -1)", x, x.wallOf(0, 0, -1), 1);
        Check.refused("wallOf(3, 0, 0)", x, x.wallOf(3, 0, 0), 1);
        Check.refused("wallOf(0, -1, 0)", x, x.wallOf(0, -1, 0), 1);
        x.set(1, 1, true);
        Check.taken("wallOf behind an act", x, x.wallOf(1, 2, 0), -2);
    }

    private static void marks() {
        EaveRoofs x = Check.house("house xx;mark 8,4;mark 3,0");
        Check.taken("mark(0, 0)", x, x.mark(0, 0), 8);
        Check.taken("mark(0, 1)", x, x.mark(0, 1), 4);
        Check.taken("mark(1, 0)", x, x.mark(1, 0), 3);
        Check.taken("mark(1, 1)", x, x.mark(1, 1), 0);
        Check.refused("mark(2, 0)", x, x.mark(2, 0), 1);
        Check.refused("mark(-1, 0)", x, x.mark(-1, 0), 1);
        Check.refused("mark(0, 2)", x, x.mark(0, 2), 1);
        Check.refused("mark(0, -1)", x, x.mark(0, -1), 1);
    }

    private static void rims() {
        EaveRoofs x = Check.house("house xxx/xox/oxx");
        int[] want = {4, 4, 4, 4};
        for (int side = 0; side < 4; side++) {
            Check.taken("rim " + side, x, x.rim(side), want[side]);
        }
        EaveRoofs y = Check.house("house xxxx");
        Check.taken("rim(0)", y, y.rim(0), 4);
        Check.taken("rim(1)", y, y.rim(1), 1);
        Check.refused("rim(4)", y, y.rim(4), 1);
        Check.refused("rim(-1)", y, y.rim(-1), 1);
    }

    private static void rows() {
        EaveRoofs x = Check.house("house xxo/oox");
        x.cell(9, 9);
        Check.eq("row(0)", Check.row(x, 0), 3);
        Check.eq("row(1)", Check.row(x, 1), 4);
        Check.eq("row(2)", Check.row(x, 2), -9);
        Check.eq("row(-1)", Check.row(x, -1), -9);
        Check.eq("row(max)", Check.row(x, Integer.MAX_VALUE), -9);
        Check.eq("trouble() is left alone", x.trouble(), 1);
        Check.eq("widest", Check.row(Check.house("house xxxxxxxxxxxxxx"), 0), 16383);
    }
}
