/**
 * Promise 31, turn: "ACT: THE HOUSE left and right changed (what 0), above and below (1); SPEEDS stay:
 * true; false: 1."
 */
public final class Promise31TurnTest {
    public static void main(String[] args) {
        leftAndRight();
        aboveAndBelow();
        theFrameAtItsBounds();
        speedsStay();
        marksStay();
        twiceIsAsItWas();
        itIsAnAct();
        noSuchWhat();
        noHouse();
        Check.end();
    }

    private static void turned(String name, EaveRoofs x, int what) {
        Check.yes(name + ": turn(" + what + ")", x.turn(what));
        Check.eq(name + ": turn(" + what + "), trouble()", x.trouble(), 0);
    }

    private static void leftAndRight() {
        EaveRoofs x = Check.house("house xxo/ooo/xoo");
        turned("odd", x, 0);
        Check.rows("odd", x, 6, 0, 4);
        EaveRoofs y = Check.house("house xoxx/oxoo");
        turned("even", y, 0);
        Check.rows("even", y, 11, 4);
    }

    private static void aboveAndBelow() {
        EaveRoofs x = Check.house("house xoo/oxo/xxo/oox/xox");
        turned("odd", x, 1);
        Check.rows("odd", x, 5, 4, 3, 2, 1);
        EaveRoofs y = Check.house("house xoo/oxo/xxo/oox");
        turned("even", y, 1);
        Check.rows("even", y, 4, 3, 2, 1);
    }

    private static void theFrameAtItsBounds() {
        EaveRoofs x = Check.house("house xooooooooooooo" + "/oooooooooooooo".repeat(9));
        turned("full", x, 0);
        Check.taken("north-east", x, x.cell(13, 0), 1);
        turned("full", x, 1);
        Check.taken("south-east", x, x.cell(13, 9), 1);
        Check.taken("one", x, x.about(2), 1);
        EaveRoofs y = Check.house("house x");
        turned("one cell", y, 0);
        turned("one cell", y, 1);
        Check.rows("one cell", y, 1);
        Check.taken("both count", y, y.about(7), 2);
    }

    private static void speedsStay() {
        EaveRoofs x = Check.house("house xxo/ooo/xoo;speed 1,2,3,4");
        turned("speeds", x, 0);
        turned("speeds", x, 1);
        for (int side = 0; side < 4; side++) {
            Check.taken("speed(" + side + ")", x, x.speed(side), side + 1);
        }
        Check.same("as told so", Told.measures(x), Told.measures(Check.house("house oox/ooo/oxx;speed 1,2,3,4")));
    }

    /** The document tells of the house alone; marks are points. */
    private static void marksStay() {
        EaveRoofs x = Check.house("house xxo/ooo/xoo;mark 1,2");
        turned("marks", x, 0);
        turned("marks", x, 1);
        Check.taken("mark(0, 0)", x, x.mark(0, 0), 1);
        Check.taken("mark(0, 1)", x, x.mark(0, 1), 2);
    }

    private static void twiceIsAsItWas() {
        for (int what = 0; what < 2; what++) {
            EaveRoofs x = Check.house("house xxo/oxx/xoo;speed 1,2,3,4;mark 1,2");
            String house = Told.house(x);
            turned("twice", x, what);
            turned("twice", x, what);
            Check.same("twice", Told.house(x), house);
        }
    }

    private static void itIsAnAct() {
        EaveRoofs x = Check.house("house xxo/oxx/xoo");
        turned("act", x, 0);
        turned("act", x, 1);
        Check.taken("ACTS", x, x.about(7), 2);
        Check.taken("undo", x, x.undo(), 1);
        Check.rows("once", x, 6, 3, 4);
        Check.taken("undo", x, x.undo(), 0);
        Check.rows("undone", x, 3, 6, 1);
    }

    private static void noSuchWhat() {
        EaveRoofs x = Check.house("house xxo/oxx/xoo");
        int[] wrong = {-1, 2, Integer.MIN_VALUE, Integer.MAX_VALUE};
        for (int what : wrong) {
            Check.yes("turn(" + what + ")", !x.turn(what));
            Check.eq("turn(" + what + "), trouble()", x.trouble(), 1);
        }
        turned("behind a refused one", x, 1);
        Check.yes("turn(2)", !x.turn(2));
        turned("behind another", x, 1);
        Check.rows("stays", x, 3, 6, 1);
        Check.taken("ACTS", x, x.about(7), 2);
    }

    private static void noHouse() {
        EaveRoofs x = new EaveRoofs();
        Check.yes("turn(0)", !x.turn(0));
        Check.eq("turn(0), trouble()", x.trouble(), 1);
        Check.yes("turn(1)", !x.turn(1));
        Check.eq("turn(1), trouble()", x.trouble(), 1);
    }
}
