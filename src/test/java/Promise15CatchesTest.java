/** Promise 15, catches: "How many POINTS there are of which a DROP runs to a WALL. NONE: 1." */
public final class Promise15CatchesTest {
    public static void main(String[] args) {
        eachWallOfACell();
        aWallMayCatchNone();
        allPointsWithAHeightAreCaughtOnce();
        asDropTells();
        theMostWalls();
        behindAnAct();
        noSuchWall();
        noHouse();
        Check.end();
    }

    private static void all(String name, EaveRoofs x, int... want) {
        for (int i = 0; i < want.length; i++) {
            Check.taken(name + ": catches(" + i + ")", x, x.catches(i), want[i]);
        }
        Check.refused(name + ": one more", x, x.catches(want.length), 1);
    }

    private static void eachWallOfACell() {
        all("one cell", Check.house("house x"), 4, 2, 2, 1);
        all("two", Check.house("house xx"), 12, 2, 6, 1);
    }

    private static void aWallMayCatchNone() {
        all("west runs", Check.house("house x;speed 1,1,1,9"), 0, 0, 0, 9);
        all("south runs", Check.house("house x;speed 1,1,9,1"), 0, 0, 9, 0);
    }

    private static void allPointsWithAHeightAreCaughtOnce() {
        String[] texts = {Check.full(14, 10), "house xxxxx/xoxox/xxxxx;speed 3,1,4,1", "house xox/oxo/xox;speed 9,8,7,6"};
        for (String text : texts) {
            EaveRoofs x = Check.house(text);
            int caught = 0;
            for (int i = 0; i < x.about(3); i++) {
                caught += x.catches(i);
            }
            Check.eq(text, caught, x.points(0, 1));
        }
    }

    private static void asDropTells() {
        String[] texts = {"house xxx/xox/xxx", "house xxx/xox/xxo;speed 1,3,2,2", "house oxx/xxx/xox;speed 5,1,1,7"};
        for (String text : texts) {
            EaveRoofs x = Check.house(text);
            int[] caught = new int[x.about(3)];
            for (int py = 0; py <= 12; py++) {
                for (int px = 0; px <= 12; px++) {
                    int wall = x.drop(px, py);
                    if (wall >= 0) {
                        caught[wall]++;
                    }
                }
            }
            all(text, x, caught);
        }
    }

    private static void theMostWalls() {
        EaveRoofs x = Check.house(Check.chequered(14, 10));
        Check.taken("the first", x, x.catches(0), 4);
        Check.taken("the last", x, x.catches(279), 1);
        Check.refused("one more", x, x.catches(280), 1);
    }

    private static void behindAnAct() {
        EaveRoofs x = Check.house("house xx");
        all("first", x, 12, 2, 6, 1);
        x.runs(3, 9);
        Check.yes("west catches more", x.catches(3) > 1);
        x.undo();
        all("undone", x, 12, 2, 6, 1);
        x.set(1, 0, false);
        all("one cell", x, 4, 2, 2, 1);
    }

    private static void noSuchWall() {
        EaveRoofs x = Check.house("house x");
        int[] wrong = {-1, 4, Integer.MIN_VALUE, Integer.MAX_VALUE};
        for (int i : wrong) {
            Check.refused("catches(" + i + ")", x, x.catches(i), 1);
        }
    }

    private static void noHouse() {
        EaveRoofs x = new EaveRoofs();
        Check.refused("catches(0)", x, x.catches(0), 1);
    }
}
