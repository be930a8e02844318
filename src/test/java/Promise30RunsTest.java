/** Promise 30, runs: "ACT: SPEED of a SIDE (1 .. 9): what it was. NONE: 1; 2." */
public final class Promise30RunsTest {
    public static void main(String[] args) {
        whatItWas();
        oneAndNine();
        asItIsCountsToo();
        itIsAnAct();
        vBelowAndAbove();
        noSuchSideIsToldAheadOfV();
        whatIsRefusedIsNoAct();
        noHouse();
        Check.end();
    }

    private static void speeds(String name, EaveRoofs x, int... want) {
        for (int side = 0; side < 4; side++) {
            Check.taken(name + ": speed(" + side + ")", x, x.speed(side), want[side]);
        }
    }

    private static void whatItWas() {
        EaveRoofs x = Check.house("house x;speed 2,3,4,5");
        for (int side = 0; side < 4; side++) {
            Check.taken("runs(" + side + ", 8)", x, x.runs(side, 8), side + 2);
            Check.taken("runs(" + side + ", 6)", x, x.runs(side, 6), 8);
        }
        speeds("then", x, 6, 6, 6, 6);
        EaveRoofs y = Check.house("house x");
        Check.taken("1 at first", y, y.runs(2, 7), 1);
        speeds("one alone", y, 1, 1, 7, 1);
    }

    private static void oneAndNine() {
        EaveRoofs x = Check.house("house x;speed 5,5,5,5");
        Check.taken("runs(1, 1)", x, x.runs(1, 1), 5);
        Check.taken("runs(2, 9)", x, x.runs(2, 9), 5);
        speeds("then", x, 5, 1, 9, 5);
    }

    private static void asItIsCountsToo() {
        EaveRoofs x = Check.house("house x");
        Check.taken("runs(0, 1)", x, x.runs(0, 1), 1);
        Check.taken("ACTS", x, x.about(7), 1);
        Check.taken("undo", x, x.undo(), 0);
    }

    private static void itIsAnAct() {
        EaveRoofs x = Check.house("house xx;speed 2,3,4,5");
        String measures = Told.measures(x);
        x.runs(3, 9);
        Check.yes("it changes what is measured", !Told.measures(x).equals(measures));
        Check.taken("undo", x, x.undo(), 0);
        speeds("undone", x, 2, 3, 4, 5);
        Check.same("undone", Told.measures(x), measures);
    }

    private static void vBelowAndAbove() {
        EaveRoofs x = Check.house("house x;speed 2,3,4,5");
        int[] wrong = {0, 10, -1, Integer.MIN_VALUE, Integer.MAX_VALUE};
        for (int v : wrong) {
            Check.refused("runs(0, " + v + ")", x, x.runs(0, v), 2);
            Check.refused("runs(3, " + v + ")", x, x.runs(3, v), 2);
        }
        speeds("stay", x, 2, 3, 4, 5);
    }

    private static void noSuchSideIsToldAheadOfV() {
        EaveRoofs x = Check.house("house x");
        int[] wrong = {-1, 4, Integer.MIN_VALUE, Integer.MAX_VALUE};
        for (int side : wrong) {
            Check.refused("runs(" + side + ", 1)", x, x.runs(side, 1), 1);
            Check.refused("runs(" + side + ", 0)", x, x.runs(side, 0), 1);
            Check.refused("runs(" + side + ", 10)", x, x.runs(side, 10), 1);
        }
    }

    private static void whatIsRefusedIsNoAct() {
        EaveRoofs x = Check.house("house x");
        x.runs(0, 0);
        x.runs(0, 10);
        x.runs(4, 1);
        Check.taken("ACTS", x, x.about(7), 0);
    }

    private static void noHouse() {
        EaveRoofs x = new EaveRoofs();
        Check.refused("runs(0, 1)", x, x.runs(0, 1), 1);
        Check.refused("runs(0, 0)", x, x.runs(0, 0), 1);
    }
}
