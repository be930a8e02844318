/**
 * Promise 26, higher: "1 if one MARK has a greater HEIGHT than another, 0 if as great a one, -2 if a
 * lesser one. NONE: 1."
 */
public final class Promise26HigherTest {
    public static void main(String[] args) {
        greaterAsGreatLesser();
        itself();
        withoutAHeight();
        byTheLeastThatCanBe();
        theEighth();
        behindAnAct();
        noSuchMark();
        noHouse();
        Check.end();
    }

    private static void greaterAsGreatLesser() {
        EaveRoofs x = Check.house("house xx/xx;mark 4,4;mark 2,2;mark 6,2");
        Check.taken("greater", x, x.higher(0, 1), 1);
        Check.taken("lesser", x, x.higher(2, 0), -2);
        Check.taken("as great", x, x.higher(1, 2), 0);
        Check.taken("as great", x, x.higher(2, 1), 0);
    }

    private static void itself() {
        EaveRoofs x = Check.house("house xx/xx;mark 4,4");
        Check.taken("itself", x, x.higher(0, 0), 0);
    }

    private static void withoutAHeight() {
        EaveRoofs x = Check.house("house xo;mark 0,0;mark 6,2;mark 1,1");
        Check.taken("both without", x, x.higher(0, 1), 0);
        Check.taken("one without", x, x.higher(1, 2), -2);
        Check.taken("one with", x, x.higher(2, 1), 1);
    }

    /** 1/8 of a cell from the east by 8 against 1/9: 9 by 288, 8 by 288. */
    private static void byTheLeastThatCanBe() {
        EaveRoofs x = Check.house("house xxxxxx/xxxxxx/xxxxxx;speed 1,8,1,9;mark 1,6;mark 23,6");
        Check.taken("lesser", x, x.higher(0, 1), -2);
        Check.taken("greater", x, x.higher(1, 0), 1);
    }

    private static void theEighth() {
        EaveRoofs x = Check.house("house xx/xx" + ";mark 1,4".repeat(7) + ";mark 4,4");
        Check.taken("greater", x, x.higher(7, 6), 1);
        Check.taken("lesser", x, x.higher(0, 7), -2);
        Check.refused("higher(7, 8)", x, x.higher(7, 8), 1);
        Check.refused("higher(8, 7)", x, x.higher(8, 7), 1);
    }

    private static void behindAnAct() {
        EaveRoofs x = Check.house("house xxxx;mark 1,2;mark 15,2");
        Check.taken("as great", x, x.higher(0, 1), 0);
        x.runs(3, 2);
        Check.taken("west runs", x, x.higher(0, 1), -2);
        x.undo();
        Check.taken("undone", x, x.higher(0, 1), 0);
    }

    private static void noSuchMark() {
        EaveRoofs x = Check.house("house xx/xx;mark 4,4;mark 2,2;mark 6,2");
        int[] wrong = {-1, 3, 8, Integer.MIN_VALUE, Integer.MAX_VALUE};
        for (int i : wrong) {
            Check.refused("higher(" + i + ", 0)", x, x.higher(i, 0), 1);
            Check.refused("higher(0, " + i + ")", x, x.higher(0, i), 1);
            Check.refused("higher(" + i + ", " + i + ")", x, x.higher(i, i), 1);
        }
        EaveRoofs y = Check.house("house x");
        Check.refused("without marks", y, y.higher(0, 0), 1);
    }

    private static void noHouse() {
        EaveRoofs x = new EaveRoofs();
        Check.refused("higher(0, 0)", x, x.higher(0, 0), 1);
    }
}
