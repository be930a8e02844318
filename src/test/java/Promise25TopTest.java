/**
 * Promise 25, top: "The greatest HEIGHT of any place in lowest terms: above (what 0), below (1). NONE: 1
 * (what, too)."
 */
public final class Promise25TopTest {
    public static void main(String[] args) {
        ofAnyPlaceNotOfPointsAlone();
        theGreatestOfAllPieces();
        lowestTerms();
        theFrameAtItsBounds();
        behindAnAct();
        noSuchWhat();
        noHouse();
        Check.end();
    }

    private static void fraction(String name, EaveRoofs x, int above, int below) {
        Check.taken(name + ": top(0)", x, x.top(0), above);
        Check.taken(name + ": top(1)", x, x.top(1), below);
    }

    private static void ofAnyPlaceNotOfPointsAlone() {
        EaveRoofs x = Check.house("house x;speed 1,1,2,1");
        fraction("one cell", x, 1, 3);
        Check.taken("no point is as high", x, x.points(3332, 9999), 0);
    }

    private static void theGreatestOfAllPieces() {
        fraction("the later one", Check.house("house xoxx/ooxx"), 1, 1);
        fraction("the earlier one", Check.house("house xxox/xxoo"), 1, 1);
        fraction("behind a split", Check.house("house xxxoxx/xxxxxx/xxxoxx"), 3, 2);
    }

    private static void lowestTerms() {
        fraction("2 by 5", Check.house("house xxx/xxx;speed 1,2,4,3"), 2, 5);
        fraction("4 by 8", Check.house("house xxxx/xxxx/xxxx/xxxx;speed 4,4,4,4"), 1, 2);
    }

    private static void theFrameAtItsBounds() {
        fraction("least", Check.house("house x;speed 9,9,9,9"), 1, 18);
        fraction("greatest", Check.house(Check.full(14, 10)), 5, 1);
        fraction("14 by 18", Check.house(Check.full(14, 10) + ";speed 1,9,1,9"), 7, 9);
    }

    private static void behindAnAct() {
        EaveRoofs x = Check.house("house xxx/xxx;speed 1,2,4,3");
        fraction("first", x, 2, 5);
        x.runs(2, 9);
        fraction("south runs", x, 1, 5);
        x.undo();
        fraction("undone", x, 2, 5);
        x.set(0, 0, false);
        fraction("without a corner", x, 2, 5);
        x.set(1, 0, false);
        fraction("without two", x, 1, 5);
    }

    private static void noSuchWhat() {
        EaveRoofs x = Check.house("house x");
        int[] wrong = {-1, 2, Integer.MIN_VALUE, Integer.MAX_VALUE};
        for (int what : wrong) {
            Check.refused("top(" + what + ")", x, x.top(what), 1);
        }
    }

    private static void noHouse() {
        EaveRoofs x = new EaveRoofs();
        Check.refused("top(0)", x, x.top(0), 1);
        Check.refused("top(1)", x, x.top(1), 1);
    }
}
