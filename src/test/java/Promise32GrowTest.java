/**
 * Promise 32, grow: "ACT: all CELLS of THE FRAME are INSIDE that are or have one that is beside them
 * (north, east, south, west): how many came. NONE: 1."
 */
public final class Promise32GrowTest {
    public static void main(String[] args) {
        oneStepEachWay();
        notByACorner();
        notBeyondTheFrame();
        noneMayCome();
        itIsAnAct();
        noHouse();
        Check.end();
    }

    private static void oneStepEachWay() {
        EaveRoofs x = Check.house("house oooo/oxoo/oooo/oooo");
        Check.taken("first", x, x.grow(), 4);
        Check.rows("first", x, 2, 7, 2, 0);
        Check.taken("second", x, x.grow(), 6);
        Check.rows("second", x, 7, 15, 7, 2);
        Check.taken("third", x, x.grow(), 4);
        Check.taken("fourth", x, x.grow(), 1);
        Check.rows("fourth", x, 15, 15, 15, 15);
    }

    private static void notByACorner() {
        EaveRoofs x = Check.house("house xoo/ooo/oox");
        Check.taken("two corners", x, x.grow(), 4);
        Check.rows("two corners", x, 3, 5, 6);
    }

    private static void notBeyondTheFrame() {
        EaveRoofs x = Check.house("house oox/oox");
        Check.taken("the east rim", x, x.grow(), 2);
        Check.rows("the east rim", x, 6, 6);
        EaveRoofs y = Check.house("house ooooooooooooox" + "/oooooooooooooo".repeat(9));
        Check.taken("the corner", y, y.grow(), 2);
        Check.eq("row(0)", Check.row(y, 0), 0x3000);
        Check.eq("row(1)", Check.row(y, 1), 0x2000);
        Check.taken("about(2)", y, y.about(2), 3);
        EaveRoofs z = Check.house("house " + "oooooooooooooo/".repeat(9) + "xooooooooooooo");
        Check.taken("the other corner", z, z.grow(), 2);
        Check.eq("row(9)", Check.row(z, 9), 3);
        Check.eq("row(8)", Check.row(z, 8), 1);
    }

    private static void noneMayCome() {
        EaveRoofs x = Check.house(Check.full(14, 10));
        Check.taken("full", x, x.grow(), 0);
        Check.taken("about(2)", x, x.about(2), 140);
        Check.taken("it is an act all the same", x, x.about(7), 1);
        EaveRoofs y = Check.house("house x");
        Check.taken("one cell", y, y.grow(), 0);
        Check.taken("about(7)", y, y.about(7), 1);
        Check.taken("undo", y, y.undo(), 0);
    }

    private static void itIsAnAct() {
        EaveRoofs x = Check.house("house xoo/ooo/oox;speed 1,2,3,4;mark 1,1");
        String house = Told.house(x);
        String measures = Told.measures(x);
        x.grow();
        Check.yes("it changes what is measured", !Told.measures(x).equals(measures));
        Check.taken("ACTS", x, x.about(7), 1);
        Check.taken("undo", x, x.undo(), 0);
        Check.same("undone", Told.house(x), house);
        Check.same("undone", Told.measures(x), measures);
    }

    private static void noHouse() {
        EaveRoofs x = new EaveRoofs();
        Check.refused("grow()", x, x.grow(), 1);
    }
}
