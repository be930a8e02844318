/**
 * Promise 28, would: "UNDER in lowest terms, were a CELL INSIDE that isn't, or not that is. NONE: 1 (no
 * HOUSE, CELL, what); 5 (no other one is INSIDE)."
 */
public final class Promise28WouldTest {
    public static void main(String[] args) {
        wereItInside();
        wereItNot();
        noOtherOneIsInside();
        noneSuchIsToldAheadOfNoOther();
        byThoughtAlone();
        asInTruth();
        noSuchCell();
        noSuchWhat();
        noHouse();
        Check.end();
    }

    private static void fraction(EaveRoofs x, int i, int y, long above, long below) {
        Check.taken("would(" + i + ", " + y + ", 0)", x, x.would(i, y, 0), above);
        Check.taken("would(" + i + ", " + y + ", 1)", x, x.would(i, y, 1), below);
    }

    private static void wereItInside() {
        EaveRoofs x = Check.house("house xo/oo");
        fraction(x, 1, 0, 5, 12);
        fraction(x, 0, 1, 5, 12);
        fraction(x, 1, 1, 1, 3);
    }

    private static void wereItNot() {
        EaveRoofs x = Check.house("house xx/xo");
        fraction(x, 1, 0, 5, 12);
        fraction(x, 0, 0, 1, 3);
        fraction(Check.house("house xx"), 0, 0, 1, 6);
    }

    private static void noOtherOneIsInside() {
        EaveRoofs x = Check.house("house xo/oo");
        Check.refused("would(0, 0, 0)", x, x.would(0, 0, 0), 5);
        Check.refused("would(0, 0, 1)", x, x.would(0, 0, 1), 5);
        EaveRoofs y = Check.house("house x");
        Check.refused("the frame's only one", y, y.would(0, 0, 0), 5);
    }

    private static void noneSuchIsToldAheadOfNoOther() {
        EaveRoofs x = Check.house("house x");
        Check.refused("would(0, 0, 2)", x, x.would(0, 0, 2), 1);
        Check.refused("would(0, 0, -1)", x, x.would(0, 0, -1), 1);
        Check.refused("would(1, 0, 0)", x, x.would(1, 0, 0), 1);
    }

    private static void byThoughtAlone() {
        EaveRoofs x = Check.house("house xxx/xox/xxx;speed 1,2,3,4;mark 5,5");
        String house = Told.house(x);
        String measures = Told.measures(x);
        x.would(1, 1, 0);
        x.would(0, 0, 1);
        Check.same("house", Told.house(x), house);
        Check.same("measures", Told.measures(x), measures);
        Check.taken("no act", x, x.about(7), 0);
        Check.refused("no act", x, x.undo(), 5);
    }

    private static void asInTruth() {
        EaveRoofs x = Check.house("house xxxo/xoxx/oxxx;speed 2,1,3,1");
        for (int y = 0; y < 3; y++) {
            for (int i = 0; i < 4; i++) {
                long above = x.would(i, y, 0);
                long below = x.would(i, y, 1);
                x.set(i, y, x.cell(i, y) == 0);
                Check.taken("in truth", x, x.under(0), above);
                Check.taken("in truth", x, x.under(1), below);
                x.undo();
            }
        }
    }

    private static void noSuchCell() {
        EaveRoofs x = Check.house("house xo/oo");
        int[][] beyond = {{-1, 0}, {2, 0}, {0, -1}, {0, 2}, {Integer.MAX_VALUE, 0}, {0, Integer.MIN_VALUE}};
        for (int[] at : beyond) {
            Check.refused("would(" + at[0] + ", " + at[1] + ", 0)", x, x.would(at[0], at[1], 0), 1);
        }
        EaveRoofs y = Check.house(Check.full(14, 10));
        // 800 / 3 less one cell's area up to 9/2, then (10 - 2t) up to 5.
        fraction(y, 13, 9, 3143, 12);
        Check.refused("beyond it", y, y.would(14, 9, 1), 1);
        Check.refused("beyond it", y, y.would(13, 10, 1), 1);
    }

    private static void noSuchWhat() {
        EaveRoofs x = Check.house("house xx");
        int[] wrong = {-1, 2, Integer.MIN_VALUE, Integer.MAX_VALUE};
        for (int what : wrong) {
            Check.refused("would(0, 0, " + what + ")", x, x.would(0, 0, what), 1);
        }
    }

    private static void noHouse() {
        EaveRoofs x = new EaveRoofs();
        Check.refused("would(0, 0, 0)", x, x.would(0, 0, 0), 1);
    }
}
