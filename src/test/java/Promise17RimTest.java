/** Promise 17, rim: "How many CELLS all WALLS of a SIDE have together. NONE: 1." */
public final class Promise17RimTest {
    public static void main(String[] args) {
        eachSide();
        severalWallsTogether();
        theMost();
        behindAnAct();
        noSuchSide();
        noHouse();
        Check.end();
    }

    private static void all(String name, EaveRoofs x, int north, int east, int south, int west) {
        Check.taken(name + ": rim(0)", x, x.rim(0), north);
        Check.taken(name + ": rim(1)", x, x.rim(1), east);
        Check.taken(name + ": rim(2)", x, x.rim(2), south);
        Check.taken(name + ": rim(3)", x, x.rim(3), west);
    }

    private static void eachSide() {
        all("one cell", Check.house("house x"), 1, 1, 1, 1);
        all("a row", Check.house("house xxxx"), 4, 1, 4, 1);
    }

    private static void severalWallsTogether() {
        all("table", Check.house("house xxxx/xoox"), 4, 3, 4, 3);
        all("ring", Check.house("house xxx/xox/xxx"), 4, 4, 4, 4);
    }

    private static void theMost() {
        all("full", Check.house(Check.full(14, 10)), 14, 10, 14, 10);
        all("chequered", Check.house(Check.chequered(14, 10)), 70, 70, 70, 70);
    }

    private static void behindAnAct() {
        EaveRoofs x = Check.house("house xxxx");
        x.rim(1);
        x.set(1, 0, false);
        all("cut", x, 3, 2, 3, 2);
        x.undo();
        all("undone", x, 4, 1, 4, 1);
    }

    private static void noSuchSide() {
        EaveRoofs x = Check.house("house xxxx");
        int[] wrong = {-1, 4, Integer.MIN_VALUE, Integer.MAX_VALUE};
        for (int side : wrong) {
            Check.refused("rim(" + side + ")", x, x.rim(side), 1);
        }
    }

    private static void noHouse() {
        EaveRoofs x = new EaveRoofs();
        Check.refused("rim(0)", x, x.rim(0), 1);
    }
}
