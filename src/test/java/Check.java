import java.util.NoSuchElementException;

/** What the tests share: counting wrong answers, feeding texts. */
final class Check {
    private static int wrong = 0;

    private Check() {
    }

    static void eq(String call, long got, long want) {
        if (got != want) {
            wrong++;
            System.out.println(call + " answered " + got + ", due is " + want);
        }
    }

    static void same(String call, String got, String want) {
        if (!got.equals(want)) {
            wrong++;
            System.out.println(call + " told " + got + ", due is " + want);
        }
    }

    static void yes(String what, boolean holds) {
        eq(what, holds ? 1 : 0, 1);
    }

    /** Ends the test, with exit code 1 if an answer was wrong. */
    static void end() {
        System.out.println(wrong == 0 ? "all answers are as due" : wrong + " answers are not as due");
        if (wrong != 0) {
            System.exit(1);
        }
    }

    /** A new object that has read a text. */
    static EaveRoofs house(String text) {
        EaveRoofs roofs = new EaveRoofs();
        int inside = tell(roofs, text);
        yes("text is taken: " + text, inside > 0);
        return roofs;
    }

    /** Feeds a text, padded by blanks, and has it read. */
    static int tell(EaveRoofs roofs, String text) {
        feed(roofs, text);
        return roofs.text(text.length());
    }

    static void feed(EaveRoofs roofs, String text) {
        StringBuilder padded = new StringBuilder(text);
        while (padded.length() % 20 != 0) {
            padded.append(' ');
        }
        for (int at = 0; at < padded.length(); at += 20) {
            roofs.feed(number(padded, at), number(padded, at + 4), number(padded, at + 8),
                    number(padded, at + 12), number(padded, at + 16));
        }
    }

    private static int number(CharSequence text, int at) {
        int number = 0;
        for (int i = 0; i < 4; i++) {
            number = number << 8 | text.charAt(at + i) & 255;
        }
        return number;
    }

    /** A text that is taken by a new object. */
    static void good(String text, int inside) {
        EaveRoofs x = new EaveRoofs();
        taken("\"" + text + "\"", x, tell(x, text), inside);
        eq("\"" + text + "\": fault()", x.fault(), 0);
        eq("\"" + text + "\": where()", x.where(), -1);
        eq("\"" + text + "\": bytes()", x.bytes(), 0);
    }

    /** A text with a fault, told to a new object. */
    static void fault(String text, int number, int place) {
        EaveRoofs x = new EaveRoofs();
        refused("\"" + text + "\"", x, tell(x, text), 4);
        eq("\"" + text + "\": fault()", x.fault(), number);
        eq("\"" + text + "\": where()", x.where(), place);
        eq("\"" + text + "\": bytes()", x.bytes(), 0);
        refused("\"" + text + "\": about(0)", x, x.about(0), 1);
    }

    /** A row, or -9 if NoSuchElementException is thrown. */
    static int row(EaveRoofs roofs, int y) {
        try {
            return roofs.row(y);
        } catch (NoSuchElementException none) {
            return -9;
        }
    }

    /** The rows of the frame, all of them and no more. */
    static void rows(String what, EaveRoofs roofs, int... want) {
        for (int y = 0; y < want.length; y++) {
            eq(what + ": row(" + y + ")", row(roofs, y), want[y]);
        }
        eq(what + ": row(" + want.length + ")", row(roofs, want.length), -9);
    }

    /** A refused call: NONE, then its trouble. */
    static void refused(String call, EaveRoofs roofs, long got, int trouble) {
        eq(call, got, EaveRoofs.NONE);
        eq(call + ", trouble()", roofs.trouble(), trouble);
    }

    /** A call that wasn't refused. */
    static void taken(String call, EaveRoofs roofs, long got, long want) {
        eq(call, got, want);
        eq(call + ", trouble()", roofs.trouble(), 0);
    }

    /** The text of a frame all of whose cells are inside. */
    static String full(int wide, int high) {
        String line = "x".repeat(wide);
        return "house " + line + ("/" + line).repeat(high - 1);
    }

    /** The text of a frame of which every second cell is inside, the first one too. */
    static String chequered(int wide, int high) {
        StringBuilder text = new StringBuilder("house ");
        for (int y = 0; y < high; y++) {
            text.append(y == 0 ? "" : "/");
            for (int x = 0; x < wide; x++) {
                text.append((x + y) % 2 == 0 ? 'x' : 'o');
            }
        }
        return text.toString();
    }
}
