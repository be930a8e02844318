import java.util.ArrayList;
import java.util.List;

/**
 * A text as the document's Terms tell it, read from a list of its tokens: what is awaited behind each
 * token is told by a few letters, all faults of a token are gathered, and the least is taken.
 */
final class ModelText {
    /** Kind: w a word, n a whole, the sign itself, ? what begins no token or is too long, $ the end. */
    private record Token(char kind, String text, int place) {
    }

    int fault = 0;
    int place = -1;
    final List<int[]> marks = new ArrayList<>();
    private final List<String> rows = new ArrayList<>();
    private final int[] speeds = {1, 1, 1, 1};
    private boolean speedTold = false;
    /** What is still awaited of a line: h a line's first word, r a row, n a whole, a comma; e what ends it. */
    private String awaited = "h";
    private final List<Integer> wholes = new ArrayList<>();
    private boolean ofSpeed = false;

    ModelText(String text) {
        for (Token token : tokens(text)) {
            int found = take(token);
            if (found != 0) {
                fault = found;
                place = token.place;
                return;
            }
        }
    }

    Plain house() {
        boolean[][] inside = new boolean[rows.size()][rows.get(0).length()];
        for (int y = 0; y < rows.size(); y++) {
            for (int x = 0; x < inside[y].length; x++) {
                inside[y][x] = rows.get(y).charAt(x) == 'x';
            }
        }
        return new Plain(inside, speeds);
    }

    private static List<Token> tokens(String text) {
        List<Token> tokens = new ArrayList<>();
        int at = 0;
        while (at < text.length()) {
            String rest = text.substring(at);
            String run = rest.replaceAll("(?s)^([a-z]+|[0-9]+|.).*$", "$1");
            char kind = '?';
            if (run.matches("[a-z]{1,14}")) {
                kind = 'w';
            } else if (run.matches("[0-9]{1,4}")) {
                kind = 'n';
            } else if (run.matches("[;,/ ]")) {
                kind = run.charAt(0);
            }
            if (kind != ' ') {
                tokens.add(new Token(kind, run, at));
            }
            at += run.length();
        }
        tokens.add(new Token('$', "", text.length()));
        return tokens;
    }

    private int take(Token token) {
        char due = awaited.charAt(0);
        String then = awaited.substring(1);
        switch (due) {
            case 'h':
                return takeFirst(token);
            case 'r':
                awaited = "e";
                return token.kind != 'w' ? 1 : takeRow(token.text);
            case 'n':
                awaited = then;
                return token.kind != 'n' ? 1 : takeWhole(Integer.parseInt(token.text));
            case ',':
                awaited = then;
                return token.kind != ',' ? 1 : 0;
            default:
                return takeEnd(token);
        }
    }

    private int takeFirst(Token token) {
        if (rows.isEmpty()) {
            awaited = "r";
            return token.kind == 'w' && token.text.equals("house") ? 0 : 1;
        }
        ofSpeed = token.text.equals("speed");
        wholes.clear();
        awaited = ofSpeed ? "n,n,n,ne" : "n,ne";
        switch (token.text) {
            case "house":
                return 3;
            case "speed":
                int again = speedTold ? 3 : 0;
                speedTold = true;
                return again;
            case "mark":
                return marks.size() == 8 ? 4 : 0;
            default:
                return 1;
        }
    }

    private int takeRow(String row) {
        boolean wrong = !row.matches("[xo]*") || !rows.isEmpty() && row.length() != rows.get(0).length();
        rows.add(row);
        return wrong ? 2 : rows.size() > 10 ? 4 : 0;
    }

    private int takeWhole(int value) {
        int k = wholes.size();
        wholes.add(value);
        if (ofSpeed) {
            speeds[k] = value;
            return value < 1 || value > 9 ? 2 : 0;
        }
        if (k == 1) {
            marks.add(new int[] {wholes.get(0), value});
        }
        return value > 4 * (k == 0 ? rows.get(0).length() : rows.size()) ? 2 : 0;
    }

    private int takeEnd(Token token) {
        if (token.kind == '$') {
            return String.join("", rows).contains("x") ? 0 : 5;
        }
        // Rows alone go on behind a stroke: only of a house no wholes were told.
        boolean ofHouse = wholes.isEmpty();
        awaited = token.kind == '/' ? "r" : "h";
        return token.kind == ';' || token.kind == '/' && ofHouse ? 0 : 1;
    }
}
