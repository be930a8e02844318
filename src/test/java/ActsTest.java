/** Promises 29 to 33: acts, and undoing them. */
public final class ActsTest {
    public static void main(String[] args) {
        noHouse();
        set();
        runs();
        turn();
        grow();
        undo();
        onlyTen();
        refusedIsNoAct();
        Check.end();
    }

    private static void noHouse() {
        EaveRoofs x = new EaveRoofs();
        Check.refused("set", x, x.set(0, 0, true), 1);
        Check.refused("runs", x, x.runs(0, 99), 1);
        Check.eq("turn", x.turn(0) ? 1 : 0, 0);
        Check.eq("turn, trouble()", x.trouble(), 1);
        Check.refused("grow", x, x.grow(), 1);
        Check.refused("undo", x, x.undo(), 1);
    }

    private static void set() {
        EaveRoofs x = Check.house("house xo");
        Check.refused("it is so", x, x.set(0, 0, true), 5);
        Check.refused("it is so", x, x.set(1, 0, false), 5);
        Check.refused("no other", x, x.set(0, 0, false), 5);
        Check.taken("comes", x, x.set(1, 0, true), 2);
        Check.taken("goes", x, x.set(0, 0, false), 1);
        Check.eq("row", Check.row(x, 0), 2);
        Check.refused("beyond", x, x.set(2, 0, true), 1);
        Check.refused("beyond", x, x.set(-1, 0, true), 1);
        Check.refused("beyond", x, x.set(0, 1, false), 1);
        Check.eq("acts", x.about(7), 2);
    }

    private static void runs() {
        EaveRoofs x = Check.house("house x;speed 2,3,4,5");
        Check.taken("what it was", x, x.runs(3, 9), 5);
        Check.taken("what it was", x, x.runs(3, 9), 9);
        Check.taken("speed", x, x.speed(3), 9);
        Check.taken("others stay", x, x.speed(0), 2);
        Check.taken("as it is counts too", x, x.about(7), 2);
        Check.refused("side", x, x.runs(4, 0), 1);
        Check.refused("side", x, x.runs(-1, 1), 1);
        Check.refused("v", x, x.runs(0, 0), 2);
        Check.refused("v", x, x.runs(0, 10), 2);
    }

    private static void turn() {
        EaveRoofs x = Check.house("house xxo/ooo/xoo;speed 1,2,3,4;mark 1,2");
        Check.eq("turn(0)", x.turn(0) ? 1 : 0, 1);
        Check.eq("trouble()", x.trouble(), 0);
        rows("left and right", x, 6, 0, 4);
        Check.eq("turn(1)", x.turn(1) ? 1 : 0, 1);
        rows("above and below", x, 4, 0, 6);
        for (int side = 0; side < 4; side++) {
            Check.eq("speeds stay", x.speed(side), side + 1);
        }
        Check.eq("marks stay", x.mark(0, 0), 1);
        Check.eq("marks stay", x.mark(0, 1), 2);
        Check.eq("turn(2)", x.turn(2) ? 1 : 0, 0);
        Check.eq("turn(2), trouble()", x.trouble(), 1);
        Check.eq("turn(-1)", x.turn(-1) ? 1 : 0, 0);
        Check.eq("acts", x.about(7), 2);
        EaveRoofs y = Check.house("house xoo/oxo/xxo/oox");
        y.turn(1);
        rows("even", y, 4, 3, 2);
        Check.eq("even: row(3)", Check.row(y, 3), 1);
        EaveRoofs z = Check.house("house xoo/oxo/xxo/oox/xox");
        z.turn(1);
        rows("odd", z, 5, 4, 3);
        Check.eq("odd: row(3)", Check.row(z, 3), 2);
        Check.eq("odd: row(4)", Check.row(z, 4), 1);
    }

    private static void rows(String what, EaveRoofs x, int first, int second, int third) {
        Check.eq(what + ": row(0)", Check.row(x, 0), first);
        Check.eq(what + ": row(1)", Check.row(x, 1), second);
        Check.eq(what + ": row(2)", Check.row(x, 2), third);
    }

    private static void grow() {
        EaveRoofs x = Check.house("house oooo/oxoo/oooo/oooo");
        Check.taken("grow", x, x.grow(), 4);
        rows("grown", x, 2, 7, 2);
        Check.taken("grow", x, x.grow(), 6);
        rows("grown twice", x, 7, 15, 7);
        Check.eq("grown twice: row(3)", Check.row(x, 3), 2);
        Check.taken("grow", x, x.grow(), 4);
        Check.taken("grow", x, x.grow(), 1);
        Check.taken("grow", x, x.grow(), 0);
        Check.taken("all acts", x, x.about(7), 5);
        // By a corner alone nothing comes at once.
        EaveRoofs y = Check.house("house xoo/ooo/oox");
        Check.taken("grow", y, y.grow(), 4);
        rows("corners", y, 3, 5, 6);
    }

    private static void undo() {
        EaveRoofs x = Check.house("house xxo/oxo;speed 1,2,3,4;mark 5,5");
        long under = x.under(0);
        int walls = x.about(3);
        int caught = x.catches(0);
        int events = x.about(5);
        int high = x.points(1, 10);
        Check.refused("nothing to undo", x, x.undo(), 5);
        x.set(2, 0, true);
        x.runs(0, 9);
        x.turn(0);
        x.turn(1);
        x.grow();
        Check.taken("undo", x, x.undo(), 4);
        Check.eq("row(0)", Check.row(x, 0), 2);
        Check.taken("undo", x, x.undo(), 3);
        Check.eq("row(0)", Check.row(x, 0), 7);
        Check.taken("undo", x, x.undo(), 2);
        Check.eq("speed", x.speed(0), 9);
        Check.taken("undo", x, x.undo(), 1);
        Check.eq("speed", x.speed(0), 1);
        Check.eq("row(0)", Check.row(x, 0), 7);
        Check.taken("undo", x, x.undo(), 0);
        Check.eq("row(0)", Check.row(x, 0), 3);
        Check.refused("undo", x, x.undo(), 5);
        Check.eq("under", x.under(0), under);
        Check.eq("walls", x.about(3), walls);
        Check.eq("catches", x.catches(0), caught);
        Check.eq("events", x.about(5), events);
        Check.eq("points", x.points(1, 10), high);
        Check.eq("mark", x.mark(0, 0), 5);
    }

    private static void onlyTen() {
        EaveRoofs x = Check.house("house x");
        for (int i = 0; i < 25; i++) {
            x.runs(0, 1 + i % 9);
        }
        Check.eq("acts", x.about(7), 10);
        for (int i = 9; i >= 0; i--) {
            Check.taken("undo", x, x.undo(), i);
            Check.eq("speed", x.speed(0), 1 + (14 + i) % 9);
        }
        Check.refused("an eleventh", x, x.undo(), 5);
        x.runs(0, 4);
        Check.taken("afresh", x, x.undo(), 0);
        Check.eq("speed", x.speed(0), 1 + 14 % 9);
    }

    private static void refusedIsNoAct() {
        EaveRoofs x = Check.house("house xo");
        x.set(1, 0, true);
        x.set(1, 0, true);
        x.runs(0, 0);
        x.turn(5);
        x.would(0, 0, 0);
        Check.tell(x, "house");
        Check.eq("acts", x.about(7), 1);
        Check.taken("undo", x, x.undo(), 0);
        Check.eq("row(0)", Check.row(x, 0), 1);
    }
}
