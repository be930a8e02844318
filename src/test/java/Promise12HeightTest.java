/**
 * Promise 12, height: "HEIGHT in lowest terms: above (what 0), below (1). NONE: 1 (no HOUSE, what);
 * 2 (no POINT)." With the Terms, II: REACH and HEIGHT.
 */
public final class Promise12HeightTest {
    public static void main(String[] args) {
        eachSideByItsSpeed();
        ofOneCellTheGreatestTimeOfAllCellsTheLeast();
        noneIsNoughtByOne();
        lowestTerms();
        theFrameAtItsBounds();
        behindAnAct();
        noPoint();
        noSuchWhatIsToldAheadOfNoPoint();
        noHouse();
        Check.end();
    }

    private static void fraction(EaveRoofs x, int px, int py, int above, int below) {
        Check.taken("height(" + px + ", " + py + ", 0)", x, x.height(px, py, 0), above);
        Check.taken("height(" + px + ", " + py + ", 1)", x, x.height(px, py, 1), below);
    }

    private static void eachSideByItsSpeed() {
        EaveRoofs x = Check.house("house x;speed 1,2,3,4");
        fraction(x, 1, 1, 1, 16);
        fraction(x, 2, 2, 1, 8);
        fraction(x, 3, 2, 1, 8);
        fraction(x, 3, 3, 1, 12);
        for (int v = 1; v <= 9; v++) {
            // Half a cell from all rims; the fast one is there first.
            for (int side = 0; side < 4; side++) {
                EaveRoofs y = Check.house("house x");
                y.runs(side, v);
                fraction(y, 2, 2, 1, 2 * v);
            }
        }
    }

    private static void ofOneCellTheGreatestTimeOfAllCellsTheLeast() {
        EaveRoofs x = Check.house("house xxxxx/xxxxx/xxoxx/xxxxx/xxxxx;speed 1,1,1,2");
        // Three quarters from the yard's corner: to the north 3/4, to the west 3/8.
        fraction(x, 15, 15, 3, 4);
        fraction(x, 14, 13, 1, 4);
        fraction(x, 14, 7, 1, 4);
        // Straight to the west of it, by the east side: one cell.
        fraction(x, 4, 10, 1, 2);
        fraction(x, 13, 10, 1, 8);
    }

    private static void noneIsNoughtByOne() {
        EaveRoofs x = Check.house("house xo/ox");
        fraction(x, 4, 4, 0, 1);
        fraction(x, 0, 0, 0, 1);
        fraction(x, 8, 8, 0, 1);
        fraction(x, 6, 2, 0, 1);
        fraction(x, 4, 2, 0, 1);
        fraction(x, 2, 8, 0, 1);
        fraction(Check.house("house xx/xx"), 4, 4, 1, 1);
        // A rim that two inside share has a height; so has a corner that four share, but not three.
        fraction(Check.house("house xx"), 4, 2, 1, 2);
        fraction(Check.house("house xx/xo"), 4, 4, 0, 1);
    }

    private static void lowestTerms() {
        EaveRoofs x = Check.house("house xxxxx/xxxxx/xxxxx/xxxxx/xxxxx;speed 6,6,6,6");
        fraction(x, 8, 8, 1, 3);
        fraction(x, 6, 6, 1, 4);
        fraction(x, 10, 10, 5, 12);
        fraction(x, 1, 9, 1, 24);
        EaveRoofs y = Check.house("house xxxxx/xxxxx/xxxxx/xxxxx/xxxxx;speed 1,2,1,1");
        fraction(y, 10, 8, 5, 4);
        fraction(y, 8, 8, 3, 2);
    }

    private static void theFrameAtItsBounds() {
        fraction(Check.house("house xxxxxxxxxxxxxx;speed 1,9,1,9"), 28, 2, 1, 2);
        fraction(Check.house(Check.full(14, 10)), 28, 20, 5, 1);
        EaveRoofs x = Check.house(Check.full(14, 10) + ";speed 9,9,9,9");
        fraction(x, 28, 20, 5, 9);
        fraction(x, 55, 39, 1, 36);
        fraction(x, 56, 40, 0, 1);
        fraction(Check.house("house x/x/x/x/x/x/x/x/x/x;speed 1,9,1,9"), 2, 20, 1, 18);
    }

    private static void behindAnAct() {
        EaveRoofs x = Check.house("house xxx/xxx/xxx");
        fraction(x, 6, 6, 3, 2);
        x.set(0, 0, false);
        fraction(x, 6, 6, 1, 2);
        x.undo();
        fraction(x, 6, 6, 3, 2);
    }

    private static void noPoint() {
        EaveRoofs x = Check.house("house xxx/xx" + "o");
        int[][] beyond = {{-1, 0}, {13, 0}, {0, -1}, {0, 9}, {Integer.MIN_VALUE, 0}, {Integer.MAX_VALUE, 0},
            {0, Integer.MIN_VALUE}, {0, Integer.MAX_VALUE}};
        for (int[] at : beyond) {
            Check.refused("height(" + at[0] + ", " + at[1] + ", 0)", x, x.height(at[0], at[1], 0), 2);
            Check.refused("height(" + at[0] + ", " + at[1] + ", 1)", x, x.height(at[0], at[1], 1), 2);
        }
        fraction(x, 12, 8, 0, 1);
        fraction(x, 12, 0, 0, 1);
        fraction(x, 0, 8, 0, 1);
    }

    private static void noSuchWhatIsToldAheadOfNoPoint() {
        EaveRoofs x = Check.house("house x");
        int[] wrong = {-1, 2, Integer.MIN_VALUE, Integer.MAX_VALUE};
        for (int what : wrong) {
            Check.refused("height(0, 0, " + what + ")", x, x.height(0, 0, what), 1);
            Check.refused("height(5, 0, " + what + ")", x, x.height(5, 0, what), 1);
        }
    }

    private static void noHouse() {
        EaveRoofs x = new EaveRoofs();
        Check.refused("height(0, 0, 0)", x, x.height(0, 0, 0), 1);
        Check.refused("height(-1, -1, 0)", x, x.height(-1, -1, 0), 1);
    }
}
