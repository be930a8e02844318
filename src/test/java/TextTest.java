/** Promises 1 to 5, 35, 36: a new object, the tape, texts and their faults. */
public final class TextTest {
    public static void main(String[] args) {
        newObject();
        tape();
        numbers();
        wholeTexts();
        forms();
        bounds();
        again();
        many();
        empty();
        refusedLeavesHouse();
        whereFollowsLatestCall();
        Check.end();
    }

    private static void newObject() {
        EaveRoofs x = new EaveRoofs();
        Check.eq("new: trouble()", x.trouble(), 0);
        Check.eq("new: where()", x.where(), -1);
        Check.eq("new: fault()", x.fault(), 0);
        Check.eq("new: bytes()", x.bytes(), 0);
        Check.eq("new: row(0)", Check.row(x, 0), -9);
        Check.eq("new: row(0) leaves trouble()", x.trouble(), 0);
        Check.refused("new: about(2)", x, x.about(2), 1);
        Check.eq("NONE", EaveRoofs.NONE, -1);
    }

    private static void tape() {
        EaveRoofs x = new EaveRoofs();
        Check.refused("about", x, x.about(0), 1);
        for (int i = 1; i <= 20; i++) {
            Check.eq("feed " + i, x.feed(0x686f7573, 0x65207878, 0x20202020, 0x20202020, 0x20202020), 20 * i);
            Check.eq("bytes " + i, x.bytes(), 20 * i);
        }
        Check.eq("feed 21", x.feed(0, 0, 0, 0, 0), -1);
        Check.eq("feed 21 bytes", x.bytes(), 400);
        Check.eq("feed leaves trouble", x.trouble(), 1);
        Check.refused("text(401)", x, x.text(401), 2);
        Check.refused("text(-1)", x, x.text(-1), 2);
        Check.eq("text refused by 2 keeps bytes", x.bytes(), 400);
        Check.eq("text refused by 2 keeps fault", x.fault(), 0);
        Check.taken("text(8)", x, x.text(8), 2);
        Check.eq("tape is empty", x.bytes(), 0);
        Check.refused("text(1)", x, x.text(1), 2);
        Check.taken("about(2)", x, x.about(2), 2);
    }

    /** Of each number the highest byte comes first; a byte above 127 begins no token. */
    private static void numbers() {
        fault("house x\u00e9", 1, 7);
        fault("house \u00f8", 1, 6);
        fault("\u0000house x", 1, 0);
        fault("house x\n", 1, 7);
        fault("House x", 1, 0);
        EaveRoofs x = new EaveRoofs();
        x.feed(0x686f7573, 0x6520786f, 0x2f6f7820, -1, -1);
        Check.taken("text(11)", x, x.text(11), 2);
        Check.eq("row(0)", Check.row(x, 0), 1);
        Check.eq("row(1)", Check.row(x, 1), 2);
    }

    private static void wholeTexts() {
        good("house x", 1);
        good("  house   xox /  xxx  ", 5);
        good("house x;speed 1,2,3,4", 1);
        good("house x;speed1,2,3,4;mark1,2", 1);
        good("house x ; mark 0004 , 4 ; speed 9, 9, 0009, 9 ; mark 0,0", 1);
        good("house xxxxxxxxxxxxxx/xxxxxxxxxxxxxx/xxxxxxxxxxxxxx/xxxxxxxxxxxxxx/xxxxxxxxxxxxxx"
                + "/xxxxxxxxxxxxxx/xxxxxxxxxxxxxx/xxxxxxxxxxxxxx/xxxxxxxxxxxxxx/xxxxxxxxxxxxxx", 140);
        good("house x;mark 1,1;mark 1,1;mark 1,1;mark 1,1;mark 1,1;mark 1,1;mark 1,1;mark 1,1", 1);
        EaveRoofs x = Check.house("house ox/xx;speed 1,2,3,4;mark 8,7;mark 0,8");
        Check.eq("about(0)", x.about(0), 2);
        Check.eq("about(1)", x.about(1), 2);
        Check.eq("about(4)", x.about(4), 2);
        Check.eq("speed(3)", x.speed(3), 4);
        Check.eq("mark(0, 1)", x.mark(0, 1), 7);
        x.runs(0, 5);
        Check.taken("all is gone", x, Check.tell(x, "house xxx"), 3);
        Check.eq("gone: about(4)", x.about(4), 0);
        Check.eq("gone: about(7)", x.about(7), 0);
        Check.eq("gone: speed(0)", x.speed(0), 1);
        Check.eq("gone: speed(3)", x.speed(3), 1);
        Check.eq("gone: about(1)", x.about(1), 1);
        Check.eq("gone: row(1)", Check.row(x, 1), -9);
        Check.refused("gone: undo", x, x.undo(), 5);
    }

    private static void forms() {
        fault("", 1, 0);
        fault("   ", 1, 3);
        fault("house", 1, 5);
        fault("house   ", 1, 8);
        fault("house;", 1, 5);
        fault("house /x", 1, 6);
        fault("house 1", 1, 6);
        fault("house x/", 1, 8);
        fault("house x//x", 1, 8);
        fault("house x/;", 1, 8);
        fault("house x x", 1, 8);
        fault("house x;", 1, 8);
        fault("house x; ;", 1, 9);
        fault("house x,", 1, 7);
        fault("house x 5", 1, 8);
        fault("housex", 1, 0);
        fault("speed 1,1,1,1;house x", 1, 0);
        fault("mark 1,1", 1, 0);
        fault(";house x", 1, 0);
        fault("12", 1, 0);
        fault("house x;roof x", 1, 8);
        fault("house x;marks 1,1", 1, 8);
        fault("house x;mar 1,1", 1, 8);
        fault("house x;7", 1, 8);
        fault("house x;speed", 1, 13);
        fault("house x;speed x", 1, 14);
        fault("house x;speed 1 1,1,1", 1, 16);
        fault("house x;speed 1,,1", 1, 16);
        fault("house x;speed 1,1,1", 1, 19);
        fault("house x;speed 1,1,1;", 1, 19);
        fault("house x;speed 1,1,1,1,1", 1, 21);
        fault("house x;speed 1,1,1,1 mark", 1, 22);
        fault("house x;mark 1", 1, 14);
        fault("house x;mark 1;", 1, 14);
        fault("house x;mark 1,", 1, 15);
        fault("house x;mark 1,2,3", 1, 16);
        fault("house x;mark 1/2", 1, 14);
        fault("house x;mark -1,2", 1, 13);
        fault("house x;mark 00001,2", 1, 13);
        fault("house x;mark 1,12345", 1, 15);
        fault("house xxxxxxxxxxxxxxx", 1, 6);
        fault("house x/xxxxxxxxxxxxxxx", 1, 8);
        fault("househousehouse x", 1, 0);
        fault("house x;speedspeedspeed", 1, 8);
        fault("house x.", 1, 7);
    }

    private static void bounds() {
        fault("house a", 2, 6);
        fault("house xxa/y", 2, 6);
        fault("house house", 2, 6);
        fault("house xx/x", 2, 9);
        fault("house xx/xxx", 2, 9);
        fault("house xx / xy", 2, 11);
        fault("house x;speed 0,1,1,1", 2, 14);
        fault("house x;speed 1,10,1,1", 2, 16);
        fault("house x;speed 1,1,1,0", 2, 20);
        fault("house x;mark 5,0", 2, 13);
        fault("house x;mark 4,5", 2, 15);
        fault("house xx/xx;mark 8,9", 2, 19);
        fault("house xx;mark 9999,9999", 2, 14);
        good("house xx;mark 8,4", 2);
        // The first token from the left counts, not the least number.
        fault("house a.", 2, 6);
        fault("house o;speed 0", 2, 14);
    }

    private static void again() {
        fault("house x;house x", 3, 8);
        fault("house x;speed 1,1,1,1;house", 3, 22);
        fault("house x;speed 1,1,1,1;speed", 3, 22);
        fault("house x;speed 1,1,1,1; mark 1,1 ;speed 0", 3, 33);
    }

    private static void many() {
        fault("house x/x/x/x/x/x/x/x/x/x/x", 4, 26);
        fault("house x/x/x/x/x/x/x/x/x/x/", 1, 26);
        fault("house x/x/x/x/x/x/x/x/x/x/xx", 2, 26);
        fault("house x/x/x/x/x/x/x/x/x/x/a", 2, 26);
        fault("house x/x/x/x/x/x/x/x/x/x/;", 1, 26);
        fault("house x;mark 1,1;mark 1,1;mark 1,1;mark 1,1;mark 1,1;mark 1,1;mark 1,1;mark 1,1;mark", 4, 80);
        fault("house x;mark 1,1;mark 1,1;mark 1,1;mark 1,1;mark 1,1;mark 1,1;mark 1,1;mark 1,1;"
                + "speed 1,1,1,1;mark 9,9", 4, 94);
    }

    private static void empty() {
        fault("house o", 5, 7);
        fault("house oo/oo  ", 5, 13);
        fault("house o;mark 1,1", 5, 16);
        fault("house o;", 1, 8);
    }

    private static void refusedLeavesHouse() {
        EaveRoofs x = Check.house("house xx/xo;speed 2,3,4,5;mark 1,2");
        x.runs(0, 7);
        Check.refused("faulty text", x, Check.tell(x, "house xxx;speed 1,1,1,1;mark 0,0;house"), 4);
        Check.eq("kept row(0)", Check.row(x, 0), 3);
        Check.eq("kept row(1)", Check.row(x, 1), 1);
        Check.eq("kept speed", x.speed(0), 7);
        Check.eq("kept mark", x.mark(0, 1), 2);
        Check.eq("kept acts", x.about(7), 1);
        Check.eq("tape is empty", x.bytes(), 0);
        Check.eq("fault stays", x.fault(), 3);
        Check.feed(x, "house x");
        Check.refused("text(21)", x, x.text(21), 2);
        Check.eq("fault stays by 2", x.fault(), 3);
        Check.eq("tape stays by 2", x.bytes(), 20);
        Check.taken("text(7)", x, x.text(7), 1);
        Check.eq("no fault", x.fault(), 0);
    }

    private static void whereFollowsLatestCall() {
        EaveRoofs x = Check.house("house x");
        Check.eq("where() none", x.where(), -1);
        Check.refused("faulty", x, Check.tell(x, "house x,"), 4);
        x.feed(0, 0, 0, 0, 0);
        x.bytes();
        Check.row(x, 5);
        Check.row(x, 0);
        Check.eq("where() stays", x.where(), 7);
        Check.eq("trouble() stays", x.trouble(), 4);
        Check.eq("cell", x.cell(0, 0), 1);
        Check.eq("where() gone", x.where(), -1);
        Check.eq("trouble() gone", x.trouble(), 0);
        Check.eq("fault() stays", x.fault(), 1);
        x.text(20);
        Check.eq("where()", x.where(), 0);
        x.cell(9, 9);
        Check.eq("where() behind another refusal", x.where(), -1);
    }

    private static void good(String text, int inside) {
        EaveRoofs x = new EaveRoofs();
        Check.taken(text, x, Check.tell(x, text), inside);
        Check.eq(text + ": fault()", x.fault(), 0);
        Check.eq(text + ": where()", x.where(), -1);
        Check.eq(text + ": bytes()", x.bytes(), 0);
    }

    private static void fault(String text, int number, int place) {
        EaveRoofs x = new EaveRoofs();
        Check.refused("\"" + text + "\"", x, Check.tell(x, text), 4);
        Check.eq("\"" + text + "\": fault()", x.fault(), number);
        Check.eq("\"" + text + "\": where()", x.where(), place);
        Check.eq("\"" + text + "\": bytes()", x.bytes(), 0);
        Check.refused("\"" + text + "\": about(0)", x, x.about(0), 1);
    }
}
