/** Promise 11, mark: "Of a MARK the quarters 0 from the west, 1 from the north. NONE: 1 (what, too)." */
public final class Promise11MarkTest {
    public static void main(String[] args) {
        westAndNorth();
        theEighth();
        atThePointsBounds();
        noSuchMark();
        noSuchWhat();
        noHouse();
        Check.end();
    }

    private static void westAndNorth() {
        EaveRoofs x = Check.house("house xx;mark 8,4;mark 3,0");
        Check.taken("mark(0, 0)", x, x.mark(0, 0), 8);
        Check.taken("mark(0, 1)", x, x.mark(0, 1), 4);
        Check.taken("mark(1, 0)", x, x.mark(1, 0), 3);
        Check.taken("mark(1, 1)", x, x.mark(1, 1), 0);
    }

    private static void theEighth() {
        StringBuilder text = new StringBuilder("house xx/xx");
        for (int i = 0; i < 8; i++) {
            text.append(";mark ").append(i).append(',').append(8 - i);
        }
        EaveRoofs x = Check.house(text.toString());
        for (int i = 0; i < 8; i++) {
            Check.taken("mark(" + i + ", 0)", x, x.mark(i, 0), i);
            Check.taken("mark(" + i + ", 1)", x, x.mark(i, 1), 8 - i);
        }
        Check.refused("mark(8, 0)", x, x.mark(8, 0), 1);
    }

    private static void atThePointsBounds() {
        EaveRoofs x = Check.house(Check.full(14, 10) + ";mark 0,0;mark 56,40");
        Check.taken("mark(0, 0)", x, x.mark(0, 0), 0);
        Check.taken("mark(0, 1)", x, x.mark(0, 1), 0);
        Check.taken("mark(1, 0)", x, x.mark(1, 0), 56);
        Check.taken("mark(1, 1)", x, x.mark(1, 1), 40);
    }

    private static void noSuchMark() {
        EaveRoofs x = Check.house("house xx;mark 8,4;mark 3,0");
        int[] wrong = {-1, 2, 8, Integer.MIN_VALUE, Integer.MAX_VALUE, 1 << 30, (1 << 31) + 1};
        for (int i : wrong) {
            Check.refused("mark(" + i + ", 0)", x, x.mark(i, 0), 1);
            Check.refused("mark(" + i + ", 1)", x, x.mark(i, 1), 1);
        }
        EaveRoofs y = Check.house("house x");
        Check.refused("without marks", y, y.mark(0, 0), 1);
    }

    private static void noSuchWhat() {
        EaveRoofs x = Check.house("house xx;mark 8,4;mark 3,0");
        int[] wrong = {-1, 2, Integer.MIN_VALUE, Integer.MAX_VALUE};
        for (int what : wrong) {
            Check.refused("mark(0, " + what + ")", x, x.mark(0, what), 1);
        }
    }

    private static void noHouse() {
        EaveRoofs x = new EaveRoofs();
        Check.refused("mark(0, 0)", x, x.mark(0, 0), 1);
    }
}
