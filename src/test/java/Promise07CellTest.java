/** Promise 7, cell: "1 if a CELL of THE FRAME is INSIDE, 0. NONE: 1." */
public final class Promise07CellTest {
    public static void main(String[] args) {
        insideAndNot();
        theFramesCorners();
        beyondTheFrame();
        noHouse();
        Check.end();
    }

    private static void insideAndNot() {
        EaveRoofs x = Check.house("house xo/ox/xx");
        int[][] want = {{1, 0}, {0, 1}, {1, 1}};
        for (int y = 0; y < 3; y++) {
            for (int i = 0; i < 2; i++) {
                Check.taken("cell(" + i + ", " + y + ")", x, x.cell(i, y), want[y][i]);
            }
        }
    }

    private static void theFramesCorners() {
        EaveRoofs x = Check.house(Check.full(14, 10));
        Check.taken("cell(0, 0)", x, x.cell(0, 0), 1);
        Check.taken("cell(13, 9)", x, x.cell(13, 9), 1);
        Check.refused("cell(14, 9)", x, x.cell(14, 9), 1);
        Check.refused("cell(13, 10)", x, x.cell(13, 10), 1);
        x.set(13, 9, false);
        Check.taken("behind an act", x, x.cell(13, 9), 0);
    }

    private static void beyondTheFrame() {
        EaveRoofs x = Check.house("house xo/ox/xx");
        int[][] beyond = {{-1, 0}, {0, -1}, {2, 0}, {0, 3}, {2, 3}, {-1, -1}, {32, 0},
            {Integer.MIN_VALUE, 0}, {Integer.MAX_VALUE, 0}, {0, Integer.MIN_VALUE}, {0, Integer.MAX_VALUE}};
        for (int[] at : beyond) {
            Check.refused("cell(" + at[0] + ", " + at[1] + ")", x, x.cell(at[0], at[1]), 1);
        }
    }

    private static void noHouse() {
        EaveRoofs x = new EaveRoofs();
        Check.refused("cell(0, 0)", x, x.cell(0, 0), 1);
    }
}
