/**
 * Promise 3, text: "The first n bytes of THE TAPE (it is empty then) are THE TEXT: all that there was
 * is gone: how many CELLS are INSIDE. NONE: 2 (n); 4." With the Terms, I: the form of a text, its
 * bounds, its faults.
 */
public final class Promise03TextTest {
    public static void main(String[] args) {
        nBelowNoneOrAboveTheBytesIsRefused();
        nMayBeNoneOrAll();
        onlyTheFirstBytesCount();
        theTapeIsEmptyThen();
        allThatThereWasIsGone();
        allThatWasMeasuredIsGone();
        eachTextMayTellSpeedOnce();
        aFaultyTextLeavesTheHouse();
        blanksPartTokens();
        tokensNeedNoBlanks();
        wordsAndWholesAtTheirLongest();
        theFrameAtItsBounds();
        speedsAtTheirBounds();
        marksAtTheirBounds();
        linesInAnyOrderBehindHouse();
        theLongestText();
        Check.end();
    }

    private static void nBelowNoneOrAboveTheBytesIsRefused() {
        EaveRoofs x = Check.house("house xox;mark 1,1");
        Check.refused("empty tape, text(1)", x, x.text(1), 2);
        Check.feed(x, "house x");
        int[] wrong = {-1, 21, Integer.MIN_VALUE, Integer.MAX_VALUE};
        for (int n : wrong) {
            Check.refused("text(" + n + ")", x, x.text(n), 2);
            Check.eq("bytes() stays", x.bytes(), 20);
            Check.rows("stays", x, 5);
        }
        Check.taken("then text(7)", x, x.text(7), 1);
    }

    private static void nMayBeNoneOrAll() {
        EaveRoofs x = new EaveRoofs();
        Check.refused("text(0) of an empty tape", x, x.text(0), 4);
        Check.eq("where()", x.where(), 0);
        Check.feed(x, "house x");
        Check.refused("text(0)", x, x.text(0), 4);
        Check.eq("where()", x.where(), 0);
        Check.eq("bytes()", x.bytes(), 0);
        Check.feed(x, "house x");
        Check.taken("text(20)", x, x.text(20), 1);
    }

    private static void onlyTheFirstBytesCount() {
        EaveRoofs x = new EaveRoofs();
        Check.feed(x, "house xxx/oox;?");
        Check.taken("text(8)", x, x.text(8), 2);
        Check.rows("xx", x, 3);
        Check.feed(x, "house xxx/oox;?");
        Check.refused("text(11)", x, x.text(11), 4);
        Check.eq("a row cut short: where()", x.where(), 10);
        Check.eq("a row cut short: fault()", x.fault(), 2);
    }

    private static void theTapeIsEmptyThen() {
        EaveRoofs x = new EaveRoofs();
        Check.feed(x, "house x" + " ".repeat(33));
        Check.taken("text(7)", x, x.text(7), 1);
        Check.eq("bytes()", x.bytes(), 0);
        Check.refused("text(1)", x, x.text(1), 2);
        Check.feed(x, "house o");
        Check.refused("text(7)", x, x.text(7), 4);
        Check.eq("bytes() by 4", x.bytes(), 0);
    }

    private static void allThatThereWasIsGone() {
        EaveRoofs x = Check.house("house ox/xx;speed 1,2,3,4;mark 8,7;mark 0,8");
        x.runs(0, 5);
        x.grow();
        Check.taken("another text", x, Check.tell(x, "house xxx"), 3);
        Check.eq("MARKS", x.about(4), 0);
        Check.eq("ACTS", x.about(7), 0);
        Check.refused("undo", x, x.undo(), 5);
        for (int side = 0; side < 4; side++) {
            Check.eq("speed " + side, x.speed(side), 1);
        }
        Check.rows("xxx", x, 7);
        Check.refused("a mark that was", x, x.mark(0, 0), 1);
        Check.same("as new", Told.measures(x), Told.measures(Check.house("house xxx")));
    }

    /** What was measured of a greater house, walls and points and events, is gone with it. */
    private static void allThatWasMeasuredIsGone() {
        EaveRoofs x = Check.house(Check.full(14, 10) + ";mark 20,20");
        Told.measures(x);
        Check.taken("another text", x, Check.tell(x, "house xo/ox;mark 2,2"), 2);
        Check.same("as new", Told.measures(x), Told.measures(Check.house("house xo/ox;mark 2,2")));
    }

    private static void eachTextMayTellSpeedOnce() {
        EaveRoofs x = Check.house("house x;speed 2,2,2,2");
        Check.taken("another text", x, Check.tell(x, "house x;speed 3,3,3,3"), 1);
        Check.eq("speed(0)", x.speed(0), 3);
        Check.refused("a faulty one", x, Check.tell(x, "house x;speed 4,4,4,4;speed"), 4);
        Check.taken("and another", x, Check.tell(x, "house x;speed 5,5,5,5"), 1);
        Check.eq("speed(3)", x.speed(3), 5);
    }

    private static void aFaultyTextLeavesTheHouse() {
        EaveRoofs x = Check.house("house xx/xo;speed 2,3,4,5;mark 1,2");
        x.runs(0, 7);
        String[] faulty = {"", "house xxx/", "house oo/oo/oo", "house xxx;speed 1,1,1,1;mark 0,0;house", "house xxx;mark 0,9"};
        for (String text : faulty) {
            Check.refused("\"" + text + "\"", x, Check.tell(x, text), 4);
            Check.same("\"" + text + "\"", Told.house(x), "house xx/xo;speed 7,3,4,5;mark 1,2");
            Check.eq("ACTS", x.about(7), 1);
        }
        Check.taken("undo", x, x.undo(), 0);
        Check.eq("speed(0)", x.speed(0), 2);
    }

    private static void blanksPartTokens() {
        Check.good("  house   xox /  xxx  ", 5);
        Check.good("house x ; mark 0004 , 4 ; speed 9 , 9 , 0009 , 9 ; mark 0 , 0 ", 1);
        Check.fault("hou se x", 1, 0);
        Check.fault("house x x", 1, 8);
        Check.fault("house x;mark 1 2,3", 1, 15);
        Check.fault("house x;spe ed 1,1,1,1", 1, 8);
    }

    private static void tokensNeedNoBlanks() {
        Check.good("house x;speed1,2,3,4;mark1,2", 1);
        Check.fault("housex", 1, 0);
        Check.fault("house xmark1,2", 2, 6);
        Check.fault("house1x", 1, 5);
    }

    private static void wordsAndWholesAtTheirLongest() {
        Check.good("house xxxxxxxxxxxxxx", 14);
        Check.fault("house xxxxxxxxxxxxxxx", 1, 6);
        Check.fault("house x/xxxxxxxxxxxxxxx", 1, 8);
        Check.fault("house x;abcdefghijklmn", 1, 8);
        Check.fault("househousehouse x", 1, 0);
        Check.good("house x;mark 0001,0000", 1);
        Check.fault("house x;mark 00001,2", 1, 13);
        Check.fault("house x;mark 1,12345", 1, 15);
        Check.fault("house x;mark 9999,0", 2, 13);
        Check.fault("house x;speed 00001,1,1,1", 1, 14);
    }

    private static void theFrameAtItsBounds() {
        Check.good("house x", 1);
        Check.good("house ox", 1);
        Check.good(Check.full(14, 1), 14);
        Check.good(Check.full(1, 10), 10);
        Check.good(Check.full(14, 10), 140);
        Check.fault(Check.full(15, 10), 1, 6);
        Check.fault(Check.full(1, 11), 4, 26);
        Check.fault(Check.full(14, 11), 4, 156);
        EaveRoofs x = Check.house(Check.full(14, 10));
        Check.eq("WIDE", x.about(0), 14);
        Check.eq("HIGH", x.about(1), 10);
    }

    private static void speedsAtTheirBounds() {
        Check.good("house x;speed 1,1,1,1", 1);
        Check.good("house x;speed 9,9,9,9", 1);
        Check.good("house x;speed 0009,0001,09,01", 1);
        for (int side = 0; side < 4; side++) {
            String ahead = "house x;speed " + "1,".repeat(side);
            String behind = ",1".repeat(3 - side);
            Check.fault(ahead + "0" + behind, 2, ahead.length());
            Check.fault(ahead + "10" + behind, 2, ahead.length());
            Check.fault(ahead + "0000" + behind, 2, ahead.length());
            EaveRoofs x = Check.house(ahead + "9" + behind);
            Check.eq("speed " + side, x.speed(side), 9);
            Check.eq("the one beside", x.speed((side + 1) % 4), 1);
        }
    }

    private static void marksAtTheirBounds() {
        EaveRoofs x = Check.house("house xxx/xxx;mark 0,0;mark 12,8;mark 12,0;mark 0,8");
        Check.eq("MARKS", x.about(4), 4);
        Check.eq("mark(1, 0)", x.mark(1, 0), 12);
        Check.eq("mark(1, 1)", x.mark(1, 1), 8);
        Check.fault("house xxx/xxx;mark 13,8", 2, 19);
        Check.fault("house xxx/xxx;mark 12,9", 2, 22);
        Check.fault("house xxx/xxx;mark 13,9", 2, 19);
        Check.good(Check.full(14, 10) + ";mark 56,40", 140);
        Check.good("house x" + ";mark 4,4".repeat(8), 1);
        Check.fault("house x" + ";mark 4,4".repeat(9), 4, 80);
    }

    private static void linesInAnyOrderBehindHouse() {
        EaveRoofs x = Check.house("house xx;mark 1,2;speed 4,3,2,1;mark 3,4");
        Check.same("marks round speed", Told.house(x), "house xx;speed 4,3,2,1;mark 1,2;mark 3,4");
        EaveRoofs y = Check.house("house xx;speed 4,3,2,1;mark 1,2;mark 3,4");
        Check.same("speed ahead", Told.house(y), Told.house(x));
        EaveRoofs z = Check.house("house xx;mark 3,4");
        Check.same("no speed", Told.house(z), "house xx;speed 1,1,1,1;mark 3,4");
    }

    private static void theLongestText() {
        String text = Check.full(14, 10) + " ; speed 1 , 2 , 3 , 4" + " ; mark 0056 , 0040".repeat(8);
        Check.good(text + " ".repeat(400 - text.length()), 140);
        Check.fault(text + " ".repeat(399 - text.length()) + ";", 1, 400);
    }
}
