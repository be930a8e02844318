/**
 * Promise 16, faces: "How many POINTS SLOPE to just some SIDES (bits, 0 .. 15; 0: to none). NONE: 1
 * (no HOUSE); 2."
 */
public final class Promise16FacesTest {
    public static void main(String[] args) {
        justTheseSides();
        toNone();
        toAll();
        allSetsTogetherAreAllPoints();
        asSlopesTells();
        behindAnAct();
        setBelowAndAbove();
        noHouse();
        Check.end();
    }

    private static void justTheseSides() {
        EaveRoofs x = Check.house("house x");
        int[] want = {16, 1, 1, 1, 1, 0, 1, 0, 1, 1, 0, 0, 1, 0, 0, 1};
        for (int set = 0; set < 16; set++) {
            Check.taken("faces(" + set + ")", x, x.faces(set), want[set]);
        }
    }

    private static void toNone() {
        Check.eq("the rims alone", Check.house(Check.full(14, 10)).faces(0), 192);
        Check.eq("a cell not inside", Check.house("house xo").faces(0), 36);
        Check.eq("nearly all", Check.house("house xooooooooooooo" + "/oooooooooooooo".repeat(9)).faces(0), 57 * 41 - 9);
    }

    private static void toAll() {
        Check.eq("two ends of a ridge", Check.house("house xx").faces(15), 2);
        Check.eq("one top each", Check.house(Check.chequered(14, 10)).faces(15), 70);
    }

    private static void allSetsTogetherAreAllPoints() {
        EaveRoofs x = Check.house(Check.full(14, 10) + ";speed 1,2,3,4");
        int all = 0;
        for (int set = 0; set < 16; set++) {
            all += x.faces(set);
        }
        Check.eq("all", all, 57 * 41);
    }

    private static void asSlopesTells() {
        String[] texts = {"house xxx/xox/xxx", "house xxx/xox/xxo;speed 1,3,2,2", "house oxx/xxx/xox;speed 5,1,1,7"};
        for (String text : texts) {
            EaveRoofs x = Check.house(text);
            int[] want = new int[16];
            for (int py = 0; py <= 12; py++) {
                for (int px = 0; px <= 12; px++) {
                    want[x.slopes(px, py)]++;
                }
            }
            for (int set = 0; set < 16; set++) {
                Check.taken(text + ": faces(" + set + ")", x, x.faces(set), want[set]);
            }
        }
    }

    private static void behindAnAct() {
        EaveRoofs x = Check.house("house x");
        x.runs(3, 9);
        Check.taken("all to the west", x, x.faces(8), 9);
        Check.taken("none to the north", x, x.faces(1), 0);
        x.undo();
        Check.taken("undone", x, x.faces(1), 1);
        Check.taken("undone", x, x.faces(8), 1);
    }

    private static void setBelowAndAbove() {
        EaveRoofs x = Check.house("house x");
        int[] wrong = {-1, 16, Integer.MIN_VALUE, Integer.MAX_VALUE};
        for (int set : wrong) {
            Check.refused("faces(" + set + ")", x, x.faces(set), 2);
        }
    }

    private static void noHouse() {
        EaveRoofs x = new EaveRoofs();
        Check.refused("faces(0)", x, x.faces(0), 1);
        Check.refused("faces(16)", x, x.faces(16), 1);
    }
}
