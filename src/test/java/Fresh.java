/** Objects that have read one text, each asked no more often than the document promises answers for. */
final class Fresh {
    private static final int MOST_CALLS = 400;

    private final String text;
    private EaveRoofs roofs;
    private int calls = MOST_CALLS;

    Fresh(String text) {
        this.text = text;
    }

    /** For one call, or a few that belong together. */
    EaveRoofs get() {
        if (calls >= MOST_CALLS) {
            roofs = Check.house(text);
            calls = 0;
        }
        calls++;
        return roofs;
    }
}
