/**
 * Promise 4, fault: "The FAULT of the latest text() not refused by 2; 0 without one, ahead of any."
 * With the Terms, I: what a FAULT is, and which of several is told.
 */
public final class Promise04FaultTest {
    public static void main(String[] args) {
        noneAheadOfAnyText();
        noneBehindAGoodText();
        itStaysByTwo();
        itStaysByOtherCalls();
        aByteThatBeginsNoToken();
        aTokenWithWhichNoTextGoesOn();
        aWordThatBeginsNoLine();
        theEndWithWhichNoTextGoesOn();
        rowsOfOtherLettersOrLengths();
        wholesBeyondTheirBounds();
        toldAgain();
        many();
        noCellInside();
        theFirstTokenCounts();
        ofOneTokenTheLeastNumber();
        Check.end();
    }

    private static void noneAheadOfAnyText() {
        EaveRoofs x = new EaveRoofs();
        Check.eq("fault()", x.fault(), 0);
        x.text(1);
        Check.eq("behind a text() refused by 2", x.fault(), 0);
    }

    private static void noneBehindAGoodText() {
        EaveRoofs x = new EaveRoofs();
        Check.tell(x, "house o");
        Check.eq("faulty", x.fault(), 5);
        Check.tell(x, "house x");
        Check.eq("good", x.fault(), 0);
    }

    private static void itStaysByTwo() {
        EaveRoofs x = new EaveRoofs();
        Check.tell(x, "house x;house");
        Check.eq("faulty", x.fault(), 3);
        Check.refused("text(9)", x, x.text(9), 2);
        Check.eq("stays", x.fault(), 3);
        Check.refused("text(-1)", x, x.text(-1), 2);
        Check.eq("stays", x.fault(), 3);
        Check.tell(x, "house x");
        x.text(21);
        Check.eq("none stays none", x.fault(), 0);
    }

    private static void itStaysByOtherCalls() {
        for (Calls.Call call : Calls.ofHouses()) {
            EaveRoofs x = Check.house(Calls.TEXT);
            Check.tell(x, "house xx/a");
            call.taken().applyAsLong(x);
            Check.eq("behind " + call.name(), x.fault(), 2);
            if (call.refused() != null) {
                call.refused().applyAsLong(x);
            }
            Check.eq("behind " + call.name() + " refused", x.fault(), 2);
        }
        EaveRoofs x = new EaveRoofs();
        Check.tell(x, "house o");
        x.feed(0, 0, 0, 0, 0);
        Check.row(x, 0);
        Check.eq("behind feed, row, where, bytes", x.where() + x.bytes() + x.fault(), 7 + 20 + 5);
    }

    /** Each byte there is, behind a row. */
    private static void aByteThatBeginsNoToken() {
        for (int sign = 0; sign < 256; sign++) {
            String text = "house x" + (char) sign;
            if (sign == ' ' || sign == 'o') {
                Check.good(text, 1);
            } else if (sign == 'x') {
                Check.good(text, 2);
            } else if (sign >= 'a' && sign <= 'z') {
                Check.fault(text, 2, 6);
            } else if (sign == ';' || sign == '/') {
                Check.fault(text, 1, 8);
            } else {
                Check.fault(text, 1, 7);
            }
        }
        Check.fault("House x", 1, 0);
        Check.fault("house X", 1, 6);
        Check.fault("house x;mark -1,2", 1, 13);
    }

    private static void aTokenWithWhichNoTextGoesOn() {
        Check.fault("speed 1,1,1,1;house x", 1, 0);
        Check.fault("mark 1,1;house x", 1, 0);
        Check.fault("hous x", 1, 0);
        Check.fault("houses x", 1, 0);
        Check.fault(";house x", 1, 0);
        Check.fault(" 12", 1, 1);
        Check.fault("house;", 1, 5);
        Check.fault("house /x", 1, 6);
        Check.fault("house 1", 1, 6);
        Check.fault("house ,", 1, 6);
        Check.fault("house x//x", 1, 8);
        Check.fault("house x/;", 1, 8);
        Check.fault("house x/1", 1, 8);
        Check.fault("house x,x", 1, 7);
        Check.fault("house x 5", 1, 8);
        Check.fault("house x;;", 1, 8);
        Check.fault("house x;/", 1, 8);
        Check.fault("house x;7", 1, 8);
        Check.fault("house x;roof x", 1, 8);
        Check.fault("house x;marks 1,1", 1, 8);
        Check.fault("house x;mar 1,1", 1, 8);
        Check.fault("house x;speeds 1,1,1,1", 1, 8);
        Check.fault("house x;speed x", 1, 14);
        Check.fault("house x;speed ,1", 1, 14);
        Check.fault("house x;speed 1 1,1,1", 1, 16);
        Check.fault("house x;speed 1,,1", 1, 16);
        Check.fault("house x;speed 1,1,1;", 1, 19);
        Check.fault("house x;speed 1,1,1,1,1", 1, 21);
        Check.fault("house x;speed 1,1,1,1 mark", 1, 22);
        Check.fault("house x;speed 1,1,1,1/x", 1, 21);
        Check.fault("house x;mark 1;", 1, 14);
        Check.fault("house x;mark 1/2", 1, 14);
        Check.fault("house x;mark x,2", 1, 13);
        Check.fault("house x;mark 1,x", 1, 15);
        Check.fault("house x;mark 1,2,3", 1, 16);
        Check.fault("house x;mark 1,2/x", 1, 16);
        Check.fault("house x;mark 1,2 mark 1,2", 1, 17);
    }

    /** Words that begin a line, each of their letters changed. */
    private static void aWordThatBeginsNoLine() {
        String[][] lines = {{"", "house", " x"}, {"house x;", "speed", " 1,1,1,1"}, {"house x;", "mark", " 1,1"}};
        for (String[] line : lines) {
            Check.good(line[0] + line[1] + line[2], 1);
            for (int i = 0; i < line[1].length(); i++) {
                String other = line[1].substring(0, i) + "q" + line[1].substring(i + 1);
                Check.fault(line[0] + other + line[2], 1, line[0].length());
            }
        }
    }

    /** Its place is how many bytes the text has, blanks behind the last token too. */
    private static void theEndWithWhichNoTextGoesOn() {
        Check.fault("", 1, 0);
        Check.fault("   ", 1, 3);
        String[] cut = {"house", "house x/", "house x;", "house x;speed", "house x;speed 1", "house x;speed 1,",
            "house x;speed 1,1", "house x;speed 1,1,", "house x;speed 1,1,1", "house x;speed 1,1,1,",
            "house x;mark", "house x;mark 1", "house x;mark 1,"};
        for (String text : cut) {
            Check.fault(text, 1, text.length());
            Check.fault(text + "  ", 1, text.length() + 2);
        }
    }

    private static void rowsOfOtherLettersOrLengths() {
        Check.fault("house a", 2, 6);
        Check.fault("house house", 2, 6);
        Check.fault("house xxxxy", 2, 6);
        Check.fault("house yxxxx", 2, 6);
        Check.fault("house xx/xw", 2, 9);
        Check.fault("house xx/x", 2, 9);
        Check.fault("house xx/xxx", 2, 9);
        Check.fault("house xx/oo/ xxx", 2, 13);
        Check.fault("house x/house", 2, 8);
    }

    private static void wholesBeyondTheirBounds() {
        Check.fault("house x;speed 0", 2, 14);
        Check.fault("house x;speed 1,10,1,1", 2, 16);
        Check.fault("house x;speed 1,1,1,9999", 2, 20);
        Check.fault("house x;mark 5", 2, 13);
        Check.fault("house x;mark 4,5", 2, 15);
        Check.fault("house xx/xx;mark 8,9", 2, 19);
        Check.fault("house xx;mark 9999,9999", 2, 14);
    }

    private static void toldAgain() {
        Check.fault("house x;house x", 3, 8);
        Check.fault("house x;house", 3, 8);
        Check.fault("house x; mark 1,1; house o", 3, 19);
        Check.fault("house x;speed 1,1,1,1;house", 3, 22);
        Check.fault("house x;speed 1,1,1,1;speed", 3, 22);
        Check.fault("house x;speed 1,1,1,1; mark 1,1 ;speed 0", 3, 33);
    }

    private static void many() {
        String eight = "house x" + ";mark 1,1".repeat(8);
        Check.fault("house x" + "/x".repeat(10), 4, 26);
        Check.fault("house x" + "/x".repeat(11), 4, 26);
        Check.fault("house x" + "/x".repeat(9) + " / x", 4, 28);
        Check.good(eight, 1);
        Check.fault(eight + ";mark", 4, eight.length() + 1);
        Check.fault(eight + "; mark 1,1", 4, eight.length() + 2);
        Check.fault(eight + ";speed 1,1,1,1;mark 9,9", 4, eight.length() + 15);
        Check.good(eight + ";speed 1,1,1,1", 1);
    }

    private static void noCellInside() {
        Check.fault("house o", 5, 7);
        Check.fault("house oo/oo  ", 5, 13);
        Check.fault("house o;mark 1,1", 5, 16);
        Check.fault("house o;speed 1,1,1,1", 5, 21);
        Check.good("house oooooooooooooo/ooooooooooooox", 1);
    }

    private static void theFirstTokenCounts() {
        Check.fault("house a.", 2, 6);
        Check.fault("house xx/x/a.", 2, 9);
        Check.fault("house o;speed 0", 2, 14);
        Check.fault("house o;house o", 3, 8);
        Check.fault("house x;speed 0,1,1,1;house x", 2, 14);
        Check.fault("house x;speed 1,1,1,1;speed 0,1,1,1", 3, 22);
        Check.fault("house x;mark 9,9;12345", 2, 13);
        Check.fault("house x" + "/x".repeat(10) + "?", 4, 26);
    }

    private static void ofOneTokenTheLeastNumber() {
        String ten = "house x" + "/x".repeat(9);
        Check.fault(ten + "/xx", 2, 26);
        Check.fault(ten + "/a", 2, 26);
        Check.fault(ten + "/xxxxxxxxxxxxxxx", 1, 26);
        Check.fault(ten + "/", 1, 26);
        Check.fault(ten + "/;", 1, 26);
        Check.fault("house x/aaaaaaaaaaaaaaa", 1, 8);
        Check.fault("house x;speed 00000,1,1,1", 1, 14);
        Check.fault("house o;", 1, 8);
        Check.fault("house o;mark 1", 1, 14);
    }
}
