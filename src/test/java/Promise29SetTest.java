/**
 * Promise 29, set: "ACT: a CELL of THE FRAME is INSIDE (is), or isn't: how many are. NONE: 1; 5 (it is so;
 * no other one is INSIDE)."
 */
public final class Promise29SetTest {
    public static void main(String[] args) {
        comesAndGoes();
        theFramesCorners();
        itIsSo();
        noOtherOneIsInside();
        itIsAnAct();
        whatIsRefusedIsNoAct();
        noSuchCell();
        noHouse();
        Check.end();
    }

    private static void comesAndGoes() {
        EaveRoofs x = Check.house("house xo/oo");
        Check.taken("comes", x, x.set(1, 0, true), 2);
        Check.taken("comes", x, x.set(0, 1, true), 3);
        Check.taken("goes", x, x.set(0, 0, false), 2);
        Check.rows("then", x, 2, 1);
    }

    private static void theFramesCorners() {
        EaveRoofs x = Check.house(Check.full(14, 10));
        Check.taken("north-west", x, x.set(0, 0, false), 139);
        Check.taken("north-east", x, x.set(13, 0, false), 138);
        Check.taken("south-west", x, x.set(0, 9, false), 137);
        Check.taken("south-east", x, x.set(13, 9, false), 136);
        Check.eq("row(0)", Check.row(x, 0), 0x1ffe);
        Check.eq("row(1)", Check.row(x, 1), 0x3fff);
        Check.eq("row(9)", Check.row(x, 9), 0x1ffe);
    }

    private static void itIsSo() {
        EaveRoofs x = Check.house("house xxo");
        Check.refused("is", x, x.set(0, 0, true), 5);
        Check.refused("isn't", x, x.set(2, 0, false), 5);
        Check.rows("stays", x, 3);
    }

    private static void noOtherOneIsInside() {
        EaveRoofs x = Check.house("house xxo");
        Check.taken("one of two", x, x.set(0, 0, false), 1);
        Check.refused("the last", x, x.set(1, 0, false), 5);
        Check.refused("the last is so", x, x.set(1, 0, true), 5);
        Check.rows("stays", x, 2);
        Check.taken("another comes", x, x.set(2, 0, true), 2);
        Check.taken("then it may go", x, x.set(1, 0, false), 1);
        Check.rows("then", x, 4);
    }

    private static void itIsAnAct() {
        EaveRoofs x = Check.house("house xxo");
        x.set(2, 0, true);
        Check.taken("ACTS", x, x.about(7), 1);
        Check.taken("undo", x, x.undo(), 0);
        Check.rows("undone", x, 3);
    }

    private static void whatIsRefusedIsNoAct() {
        EaveRoofs x = Check.house("house xo");
        x.set(0, 0, true);
        x.set(1, 0, false);
        x.set(0, 0, false);
        x.set(2, 0, true);
        Check.taken("ACTS", x, x.about(7), 0);
        Check.refused("undo", x, x.undo(), 5);
    }

    private static void noSuchCell() {
        EaveRoofs x = Check.house("house xo/oo");
        int[][] beyond = {{-1, 0}, {2, 0}, {0, -1}, {0, 2}, {32, 0}, {Integer.MAX_VALUE, 0}, {0, Integer.MIN_VALUE}};
        for (int[] at : beyond) {
            Check.refused("set(" + at[0] + ", " + at[1] + ", true)", x, x.set(at[0], at[1], true), 1);
            Check.refused("set(" + at[0] + ", " + at[1] + ", false)", x, x.set(at[0], at[1], false), 1);
        }
        Check.rows("stays", x, 1, 0);
    }

    private static void noHouse() {
        EaveRoofs x = new EaveRoofs();
        Check.refused("set(0, 0, true)", x, x.set(0, 0, true), 1);
        Check.refused("set(0, 0, false)", x, x.set(0, 0, false), 1);
    }
}
