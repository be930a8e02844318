/** Promise 8, speed: "SPEED of a SIDE. NONE: 1." */
public final class Promise08SpeedTest {
    public static void main(String[] args) {
        oneEachAtFirst();
        asTold();
        asRun();
        noSuchSide();
        noHouse();
        Check.end();
    }

    private static void oneEachAtFirst() {
        EaveRoofs x = Check.house("house x");
        for (int side = 0; side < 4; side++) {
            Check.taken("speed(" + side + ")", x, x.speed(side), 1);
        }
    }

    private static void asTold() {
        EaveRoofs x = Check.house("house x;speed 9,8,1,6");
        int[] want = {9, 8, 1, 6};
        for (int side = 0; side < 4; side++) {
            Check.taken("speed(" + side + ")", x, x.speed(side), want[side]);
        }
    }

    private static void asRun() {
        EaveRoofs x = Check.house("house x;speed 9,8,1,6");
        x.runs(2, 5);
        Check.taken("speed(2)", x, x.speed(2), 5);
        Check.taken("speed(1)", x, x.speed(1), 8);
        x.undo();
        Check.taken("speed(2), undone", x, x.speed(2), 1);
    }

    private static void noSuchSide() {
        EaveRoofs x = Check.house("house x");
        int[] wrong = {-1, 4, Integer.MIN_VALUE, Integer.MAX_VALUE};
        for (int side : wrong) {
            Check.refused("speed(" + side + ")", x, x.speed(side), 1);
        }
    }

    private static void noHouse() {
        EaveRoofs x = new EaveRoofs();
        Check.refused("speed(0)", x, x.speed(0), 1);
    }
}
