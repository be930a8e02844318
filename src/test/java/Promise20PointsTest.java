/**
 * Promise 20, points: "How many POINTS have a HEIGHT above t (a by b; a 0 .. 9,999, b 1 .. 9,999). NONE:
 * 1; 2."
 */
public final class Promise20PointsTest {
    public static void main(String[] args) {
        aboveAndNotAt();
        timesAtTheirBounds();
        notInLowestTerms();
        theMostPoints();
        behindAnAct();
        wrongTimes();
        noHouseIsToldAheadOfWrongTimes();
        Check.end();
    }

    private static void aboveAndNotAt() {
        EaveRoofs x = Check.house("house x");
        Check.taken("above 0", x, x.points(0, 1), 9);
        Check.taken("a bit below a quarter", x, x.points(2499, 9999), 9);
        Check.taken("a quarter", x, x.points(1, 4), 1);
        Check.taken("a bit above a quarter", x, x.points(2500, 9999), 1);
        Check.taken("a bit below a half", x, x.points(4999, 9999), 1);
        Check.taken("a half", x, x.points(1, 2), 0);
    }

    private static void timesAtTheirBounds() {
        EaveRoofs x = Check.house("house x");
        for (int[] time : Times.BOUNDS) {
            Check.taken("points(" + Times.of(time) + ")", x, x.points(time[0], time[1]), 9 * time[2]);
        }
    }

    private static void notInLowestTerms() {
        EaveRoofs x = Check.house("house xxx/xxx/xxx;speed 3,3,3,3");
        Check.taken("1 by 3", x, x.points(1, 3), 9);
        Check.taken("3333 by 9999", x, x.points(3333, 9999), 9);
        Check.taken("2 by 6", x, x.points(2, 6), 9);
    }

    private static void theMostPoints() {
        EaveRoofs x = Check.house(Check.full(14, 10));
        Check.taken("all but the rims", x, x.points(0, 1), 55 * 39);
        Check.taken("a ridge", x, x.points(4999, 1000), 17);
        Check.taken("no more", x, x.points(5, 1), 0);
    }

    private static void behindAnAct() {
        EaveRoofs x = Check.house("house xx");
        Check.taken("first", x, x.points(0, 1), 21);
        x.set(0, 0, false);
        Check.taken("behind an act", x, x.points(0, 1), 9);
        x.undo();
        Check.taken("undone", x, x.points(0, 1), 21);
    }

    private static void wrongTimes() {
        EaveRoofs x = Check.house("house x");
        for (int[] time : Times.WRONG) {
            Check.refused("points(" + Times.of(time) + ")", x, x.points(time[0], time[1]), 2);
        }
    }

    private static void noHouseIsToldAheadOfWrongTimes() {
        EaveRoofs x = new EaveRoofs();
        Check.refused("points(0, 1)", x, x.points(0, 1), 1);
        for (int[] time : Times.WRONG) {
            Check.refused("points(" + Times.of(time) + ")", x, x.points(time[0], time[1]), 1);
        }
    }
}
