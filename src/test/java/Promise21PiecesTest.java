/** Promise 21, pieces: "PIECES at t (a by b; a 0 .. 9,999, b 1 .. 9,999). NONE: 1; 2." */
public final class Promise21PiecesTest {
    public static void main(String[] args) {
        notByACornerAlone();
        atTheTimeOfASplit();
        atTheTimeOfAnEnd();
        partsThatTouchByACornerLater();
        aYardDoesNotPart();
        timesAtTheirBounds();
        theMostPieces();
        theFrameAtItsBounds();
        behindAnAct();
        wrongTimes();
        noHouseIsToldAheadOfWrongTimes();
        Check.end();
    }

    private static void notByACornerAlone() {
        EaveRoofs x = Check.house("house xxo/oox/oxx");
        Check.taken("at 0", x, x.pieces(0, 1), 2);
        Check.taken("at a third", x, x.pieces(1, 3), 2);
    }

    private static void atTheTimeOfASplit() {
        EaveRoofs x = Check.house("house xxxoxxx/xxxxxxx/xxxoxxx");
        Check.taken("a bit ahead", x, x.pieces(4999, 9999), 1);
        Check.taken("at 1/2", x, x.pieces(1, 2), 2);
        Check.taken("a bit behind", x, x.pieces(5000, 9999), 2);
    }

    private static void atTheTimeOfAnEnd() {
        EaveRoofs x = Check.house("house x;speed 4,3,5,6");
        Check.taken("a bit ahead", x, x.pieces(1110, 9999), 1);
        Check.taken("at 1/9", x, x.pieces(1111, 9999), 0);
        Check.taken("at 1/9", x, x.pieces(1, 9), 0);
    }

    /** Two by two windows: their stands touch by a corner at 1/2, though their cells share one. */
    private static void partsThatTouchByACornerLater() {
        EaveRoofs x = Check.house("house xxo/xxx/oxx");
        Check.taken("at 0", x, x.pieces(0, 1), 1);
        Check.taken("a bit ahead", x, x.pieces(4999, 9999), 1);
        Check.taken("at 1/2", x, x.pieces(1, 2), 2);
    }

    private static void aYardDoesNotPart() {
        EaveRoofs x = Check.house("house xxxxx/xxxxx/xxoxx/xxxxx/xxxxx");
        Check.taken("at 0", x, x.pieces(0, 1), 1);
        Check.taken("a bit ahead of the end", x, x.pieces(999, 1000), 1);
        Check.taken("at the end", x, x.pieces(1, 1), 0);
    }

    private static void timesAtTheirBounds() {
        EaveRoofs x = Check.house("house x");
        for (int[] time : Times.BOUNDS) {
            Check.taken("pieces(" + Times.of(time) + ")", x, x.pieces(time[0], time[1]), time[2]);
        }
    }

    private static void theMostPieces() {
        EaveRoofs x = Check.house(Check.chequered(14, 10));
        Check.taken("at 0", x, x.pieces(0, 1), 70);
        Check.taken("a bit ahead of the end", x, x.pieces(4999, 9999), 70);
        Check.taken("at the end", x, x.pieces(1, 2), 0);
    }

    private static void theFrameAtItsBounds() {
        EaveRoofs x = Check.house("house xoooooooooooox" + "/oooooooooooooo".repeat(8) + "/xoooooooooooox");
        Check.taken("the four corners", x, x.pieces(0, 1), 4);
        EaveRoofs y = Check.house("house " + "oooooo/".repeat(8) + "xoxoxo/xxxoxx");
        Check.taken("round at the south rim", y, y.pieces(0, 1), 2);
    }

    private static void behindAnAct() {
        EaveRoofs x = Check.house("house xxx");
        x.set(1, 0, false);
        Check.taken("cut", x, x.pieces(0, 1), 2);
        x.undo();
        Check.taken("undone", x, x.pieces(0, 1), 1);
    }

    private static void wrongTimes() {
        EaveRoofs x = Check.house("house x");
        for (int[] time : Times.WRONG) {
            Check.refused("pieces(" + Times.of(time) + ")", x, x.pieces(time[0], time[1]), 2);
        }
    }

    private static void noHouseIsToldAheadOfWrongTimes() {
        EaveRoofs x = new EaveRoofs();
        Check.refused("pieces(0, 1)", x, x.pieces(0, 1), 1);
        for (int[] time : Times.WRONG) {
            Check.refused("pieces(" + Times.of(time) + ")", x, x.pieces(time[0], time[1]), 1);
        }
    }
}
