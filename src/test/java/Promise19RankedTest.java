/**
 * Promise 19, ranked: "The i-th MARK (0: the first) by HEIGHT, the greatest first, of like ones by
 * numbers. NONE: 1 (no HOUSE, i)."
 */
public final class Promise19RankedTest {
    public static void main(String[] args) {
        theGreatestFirst();
        ofLikeOnesByNumbers();
        oneMark();
        eightMarks();
        behindAnAct();
        noSuchMark();
        withoutMarks();
        noHouse();
        Check.end();
    }

    private static void all(String name, EaveRoofs x, int... want) {
        for (int i = 0; i < want.length; i++) {
            Check.taken(name + ": ranked(" + i + ")", x, x.ranked(i), want[i]);
        }
        Check.refused(name + ": one more", x, x.ranked(want.length), 1);
    }

    private static void theGreatestFirst() {
        all("falling", Check.house("house xxx/xxx/xxx;mark 6,6;mark 5,5;mark 4,4"), 0, 1, 2);
        all("rising", Check.house("house xxx/xxx/xxx;mark 4,4;mark 5,5;mark 6,6"), 2, 1, 0);
    }

    private static void ofLikeOnesByNumbers() {
        all("mixed", Check.house("house xxx/xxx/xxx;mark 0,0;mark 4,4;mark 6,6;mark 8,8;mark 12,3;mark 6,6"), 2, 5, 1, 3, 0, 4);
        all("all like", Check.house("house xxx;mark 0,0;mark 12,4;mark 0,4"), 0, 1, 2);
    }

    private static void oneMark() {
        all("one", Check.house("house x;mark 0,0"), 0);
    }

    private static void eightMarks() {
        all("eight", Check.house(Check.full(14, 10) + ";mark 1,20;mark 2,20;mark 3,20;mark 4,20;mark 8,20;mark 7,20;mark 6,20;mark 5,20"),
                4, 5, 6, 7, 3, 2, 1, 0);
    }

    private static void behindAnAct() {
        EaveRoofs x = Check.house("house xxxx;mark 1,2;mark 15,2");
        all("like", x, 0, 1);
        x.runs(3, 2);
        all("west runs", x, 1, 0);
        x.undo();
        all("undone", x, 0, 1);
    }

    private static void noSuchMark() {
        EaveRoofs x = Check.house("house xxxx;mark 1,2;mark 15,2");
        int[] wrong = {-1, 2, 8, Integer.MIN_VALUE, Integer.MAX_VALUE};
        for (int i : wrong) {
            Check.refused("ranked(" + i + ")", x, x.ranked(i), 1);
        }
    }

    private static void withoutMarks() {
        EaveRoofs x = Check.house("house x");
        Check.refused("ranked(0)", x, x.ranked(0), 1);
    }

    private static void noHouse() {
        EaveRoofs x = new EaveRoofs();
        Check.refused("ranked(0)", x, x.ranked(0), 1);
    }
}
