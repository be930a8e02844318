/**
 * Promise 22, area: "AREA of LEFT at t (a by b, as above) in lowest terms: above (what 0), below (1);
 * 0 by 1. NONE: 1 (no HOUSE, what); 2."
 */
public final class Promise22AreaTest {
    public static void main(String[] args) {
        atNoughtAllCells();
        asTheSidesRun();
        goneIsNoughtByOne();
        lowestTerms();
        longNumbers();
        timesAtTheirBounds();
        behindAnAct();
        wrongTimes();
        noSuchWhatIsToldAheadOfWrongTimes();
        noHouseIsToldAheadOfWrongTimes();
        Check.end();
    }

    private static void fraction(String name, EaveRoofs x, int a, int b, long above, long below) {
        Check.taken(name + ": area(" + a + ", " + b + ", 0)", x, x.area(a, b, 0), above);
        Check.taken(name + ": area(" + a + ", " + b + ", 1)", x, x.area(a, b, 1), below);
    }

    private static void atNoughtAllCells() {
        fraction("ring", Check.house("house xxx/xox/xxx"), 0, 1, 8, 1);
        fraction("corner", Check.house("house xo/ox"), 0, 77, 2, 1);
        fraction("full", Check.house(Check.full(14, 10)), 0, 9999, 140, 1);
    }

    private static void asTheSidesRun() {
        // (3 - 6t) (3 - 4t) less the yard's (1 + 6t) (1 + 4t): 8 - 40t.
        EaveRoofs x = Check.house("house xxx/xox/xxx;speed 1,2,3,4");
        fraction("ring", x, 1, 12, 14, 3);
        fraction("ring", x, 1, 40, 7, 1);
        // Two corners stay: (2 - 2t) (2 - 2t), twice, less what both have, (1 - 2t) (1 - 2t).
        EaveRoofs y = Check.house("house xxo/xxx/oxx");
        fraction("two squares", y, 1, 4, 17, 4);
        fraction("two squares", y, 1, 2, 2, 1);
        fraction("two squares", y, 3, 4, 1, 2);
    }

    private static void goneIsNoughtByOne() {
        EaveRoofs x = Check.house("house xxx/xox/xxx");
        fraction("at the end", x, 1, 2, 0, 1);
        fraction("at the end", x, 4999, 9998, 0, 1);
        fraction("behind it", x, 9999, 9998, 0, 1);
        fraction("long behind it", x, 9999, 1, 0, 1);
    }

    private static void lowestTerms() {
        EaveRoofs x = Check.house("house x");
        fraction("one cell", x, 1, 4, 1, 4);
        fraction("one cell", x, 2, 8, 1, 4);
        fraction("one cell", x, 1, 6, 4, 9);
        fraction("one cell", x, 1000, 4000, 1, 4);
    }

    private static void longNumbers() {
        fraction("a bit ahead of the end", Check.house("house x"), 4999, 9999, 1, 9999L * 9999);
        long above = 139984L * 99988;
        fraction("a bit behind nought", Check.house(Check.full(14, 10)), 1, 9999, above, 9999L * 9999);
    }

    private static void timesAtTheirBounds() {
        EaveRoofs x = Check.house("house x");
        for (int[] time : Times.BOUNDS) {
            Check.yes("area(" + Times.of(time) + ", 0)", x.area(time[0], time[1], 0) > 0 == (time[2] > 0));
            Check.eq("trouble()", x.trouble(), 0);
        }
    }

    private static void behindAnAct() {
        EaveRoofs x = Check.house("house xx");
        fraction("first", x, 1, 4, 3, 4);
        x.runs(1, 3);
        fraction("east runs", x, 1, 4, 1, 2);
        x.undo();
        fraction("undone", x, 1, 4, 3, 4);
    }

    private static void wrongTimes() {
        EaveRoofs x = Check.house("house x");
        for (int[] time : Times.WRONG) {
            Check.refused("area(" + Times.of(time) + ", 0)", x, x.area(time[0], time[1], 0), 2);
            Check.refused("area(" + Times.of(time) + ", 1)", x, x.area(time[0], time[1], 1), 2);
        }
    }

    private static void noSuchWhatIsToldAheadOfWrongTimes() {
        EaveRoofs x = Check.house("house x");
        int[] wrong = {-1, 2, Integer.MIN_VALUE, Integer.MAX_VALUE};
        for (int what : wrong) {
            Check.refused("area(0, 1, " + what + ")", x, x.area(0, 1, what), 1);
            Check.refused("area(-1, 1, " + what + ")", x, x.area(-1, 1, what), 1);
            Check.refused("area(0, 0, " + what + ")", x, x.area(0, 0, what), 1);
        }
    }

    private static void noHouseIsToldAheadOfWrongTimes() {
        EaveRoofs x = new EaveRoofs();
        Check.refused("area(0, 1, 0)", x, x.area(0, 1, 0), 1);
        for (int[] time : Times.WRONG) {
            Check.refused("area(" + Times.of(time) + ", 0)", x, x.area(time[0], time[1], 0), 1);
        }
    }
}
