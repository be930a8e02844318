/**
 * Promise 33, undo: "The latest ACT is undone: how many still can be. NONE: 1 (no HOUSE); 5." With the
 * Terms, III: "the latest 10 that weren't refused can be undone, the latest first (a TEXT leaves none)."
 */
public final class Promise33UndoTest {
    public static void main(String[] args) {
        theLatestFirst();
        whatWasMeasuredIsGone();
        tenAndNoMore();
        tenOfEachKind();
        noneToUndo();
        aTextLeavesNone();
        aFaultyTextLeavesThemAll();
        refusedOnesDoNotCount();
        actsBehindAnUndo();
        undoIsNoActItself();
        noHouse();
        Check.end();
    }

    private static void theLatestFirst() {
        EaveRoofs x = Check.house("house xxo/oxo;speed 1,2,3,4;mark 5,5");
        String[] houses = new String[6];
        String[] measures = new String[6];
        for (int act = 0; act <= 5; act++) {
            houses[act] = Told.house(x);
            // A new object tells what is measured, so that this one's calls stay few.
            measures[act] = Told.measures(Check.house(houses[act]));
            act(x, act);
        }
        x.undo();
        for (int act = 4; act >= 0; act--) {
            Check.taken("undo", x, x.undo(), act);
            Check.same("undone " + act, Told.house(x), houses[act]);
        }
        Check.same("as it was", Told.measures(x), measures[0]);
        Check.refused("undo", x, x.undo(), 5);
    }

    /** What was asked of the house that an act made isn't told of the one that comes back. */
    private static void whatWasMeasuredIsGone() {
        for (int act = 0; act <= 5; act++) {
            EaveRoofs x = Check.house("house xxo/oxo;speed 1,2,3,4;mark 5,5;mark 2,2");
            String house = Told.house(x);
            act(x, act);
            String other = Told.measures(x);
            Check.yes("act " + act + " changes what is measured", !other.equals(measuresOf(house)));
            Check.taken("undo", x, x.undo(), 0);
            Check.same("undone " + act, Told.measures(x), measuresOf(house));
        }
    }

    private static String measuresOf(String house) {
        return Told.measures(Check.house(house));
    }

    private static void act(EaveRoofs x, int act) {
        switch (act) {
            case 0 -> x.set(2, 0, true);
            case 1 -> x.runs(0, 9);
            case 2 -> x.turn(0);
            case 3 -> x.turn(1);
            case 4 -> x.grow();
            default -> x.set(0, 0, false);
        }
    }

    private static void tenAndNoMore() {
        for (int acts = 9; acts <= 25; acts++) {
            EaveRoofs x = Check.house("house x");
            for (int i = 0; i < acts; i++) {
                x.runs(0, 1 + i % 9);
            }
            int kept = Math.min(acts, 10);
            Check.taken("ACTS", x, x.about(7), kept);
            for (int i = kept - 1; i >= 0; i--) {
                Check.taken("undo", x, x.undo(), i);
                int latest = acts - kept + i - 1;
                Check.eq("speed", x.speed(0), latest < 0 ? 1 : 1 + latest % 9);
            }
            Check.refused("one more", x, x.undo(), 5);
            Check.taken("ACTS", x, x.about(7), 0);
        }
    }

    private static void tenOfEachKind() {
        EaveRoofs x = Check.house("house xoooooooooooo");
        for (int i = 1; i <= 12; i++) {
            x.set(i, 0, true);
        }
        for (int i = 9; i >= 0; i--) {
            Check.taken("undo", x, x.undo(), i);
        }
        Check.rows("two stay", x, 7);
        Check.refused("undo", x, x.undo(), 5);
        EaveRoofs y = Check.house("house xoooooooooooo");
        for (int i = 1; i <= 11; i++) {
            y.grow();
        }
        for (int i = 9; i >= 0; i--) {
            Check.taken("undo", y, y.undo(), i);
        }
        Check.rows("one stays", y, 3);
        EaveRoofs z = Check.house("house xoooooooooooo");
        for (int i = 1; i <= 11; i++) {
            z.turn(0);
        }
        for (int i = 9; i >= 0; i--) {
            Check.taken("undo", z, z.undo(), i);
        }
        Check.rows("one stays", z, 4096);
    }

    private static void noneToUndo() {
        EaveRoofs x = Check.house("house x;speed 2,2,2,2");
        Check.refused("undo", x, x.undo(), 5);
        Check.same("stays", Told.house(x), "house x;speed 2,2,2,2");
    }

    private static void aTextLeavesNone() {
        EaveRoofs x = Check.house("house xo");
        x.grow();
        Check.tell(x, "house xo");
        Check.refused("undo", x, x.undo(), 5);
        Check.rows("stays", x, 1);
    }

    private static void aFaultyTextLeavesThemAll() {
        EaveRoofs x = Check.house("house xo");
        x.grow();
        x.turn(0);
        Check.tell(x, "house xo/");
        Check.taken("undo", x, x.undo(), 1);
        x.text(1);
        Check.taken("undo", x, x.undo(), 0);
        Check.rows("undone", x, 1);
    }

    private static void refusedOnesDoNotCount() {
        EaveRoofs x = Check.house("house xoooooooooooo");
        for (int i = 1; i <= 10; i++) {
            x.set(i, 0, true);
            x.set(i, 0, true);
            x.runs(0, 0);
            x.turn(5);
            x.would(12, 0, 0);
        }
        Check.taken("ACTS", x, x.about(7), 10);
        for (int i = 9; i >= 0; i--) {
            Check.taken("undo", x, x.undo(), i);
        }
        Check.rows("as it was", x, 1);
    }

    private static void actsBehindAnUndo() {
        EaveRoofs x = Check.house("house xooo");
        x.set(1, 0, true);
        x.set(2, 0, true);
        Check.taken("undo", x, x.undo(), 1);
        x.set(3, 0, true);
        Check.rows("another way", x, 11);
        Check.taken("undo", x, x.undo(), 1);
        Check.rows("back", x, 3);
        Check.taken("undo", x, x.undo(), 0);
        Check.rows("as it was", x, 1);
    }

    private static void undoIsNoActItself() {
        EaveRoofs x = Check.house("house xo");
        x.grow();
        Check.taken("undo", x, x.undo(), 0);
        Check.refused("undo", x, x.undo(), 5);
        Check.rows("stays", x, 1);
    }

    private static void noHouse() {
        EaveRoofs x = new EaveRoofs();
        Check.refused("undo()", x, x.undo(), 1);
    }
}
