import java.util.Arrays;
import java.util.NoSuchElementException;

/**
 * Roofs over houses of straight walls that run in, each side at its own speed.
 * The document's promises are kept here; README.md tells how to use the class.
 */
public final class EaveRoofs {
    public static final int NONE = -1;

    /** Answered where a call isn't refused, but there is nothing to tell (or less). */
    private static final int NOTHING = -2;

    private static final int MOST_WIDE = 14;
    private static final int MOST_HIGH = 10;
    private static final int MOST_CELLS = MOST_WIDE * MOST_HIGH;
    private static final int MOST_MARKS = 8;
    private static final int SIDES = 4;
    private static final int MOST_SPEED = 9;
    private static final int NORTH = 0;
    private static final int EAST = 1;
    private static final int SOUTH = 2;
    private static final int WEST = 3;

    private static final int TAPE_BYTES = 400;
    private static final int FED_BYTES = 20;

    private static final int NO_SUCH = 1;
    private static final int BAD_NUMBER = 2;
    private static final int FAULTY = 4;
    private static final int NOT_SO = 5;

    private static final int MOST_TIME_PART = 9999;

    private final byte[] tape = new byte[TAPE_BYTES];
    private int tapeLength = 0;
    private int refusal = 0;
    private int faultNumber = 0;
    private int faultPlace = NONE;
    private final House house = new House();
    private final Past past = new Past();
    private final Reader reader = new Reader(tape);
    private final Walls walls = new Walls(house);
    private final Roof roof = new Roof(house, walls);
    private final Remains remains = new Remains(house);
    private final Ratio ratio = new Ratio();

    public EaveRoofs() {
    }

    // ---- texts

    public int feed(int a, int b, int c, int d, int e) {
        if (tapeLength + FED_BYTES > tape.length) {
            return NONE;
        }
        putBytes(a);
        putBytes(b);
        putBytes(c);
        putBytes(d);
        putBytes(e);
        return tapeLength;
    }

    public int text(int n) {
        if (n < 0 || n > tapeLength) {
            return refuse(BAD_NUMBER);
        }
        tapeLength = 0;
        boolean whole = reader.readText(n);
        faultNumber = reader.faultNumber;
        faultPlace = reader.faultPlace;
        if (!whole) {
            return refuse(FAULTY);
        }
        house.become(reader.draft);
        past.count = 0;
        forgetMeasures();
        return answer(house.countInside());
    }

    public int fault() {
        return faultNumber;
    }

    public int where() {
        return refusal == FAULTY ? faultPlace : NONE;
    }

    // ---- the house

    public int about(int what) {
        if (!house.stands() || what < 0 || what > 7) {
            return refuse(NO_SUCH);
        }
        switch (what) {
            case 0:
                return answer(house.wide);
            case 1:
                return answer(house.high);
            case 2:
                return answer(house.countInside());
            case 3:
                walls.build();
                return answer(walls.count);
            case 4:
                return answer(house.markCount);
            case 5:
                remains.findEvents();
                return answer(remains.eventCount);
            case 6:
                return answer(remains.countLeft(0, 1));
            default:
                return answer(past.count);
        }
    }

    public int cell(int x, int y) {
        if (!house.hasCell(x, y)) {
            return refuse(NO_SUCH);
        }
        return answer(house.isInside(x, y) ? 1 : 0);
    }

    public int speed(int side) {
        if (!house.stands() || !isSide(side)) {
            return refuse(NO_SUCH);
        }
        return answer(house.pace(side));
    }

    public int wall(int i, int what) {
        walls.build();
        if (!walls.has(i) || what < 0 || what >= Walls.TOLD) {
            return refuse(NO_SUCH);
        }
        return answer(walls.toldOf(i, what));
    }

    public int wallOf(int x, int y, int side) {
        if (!house.hasCell(x, y) || !isSide(side)) {
            return refuse(NO_SUCH);
        }
        if (!house.isInside(x, y)) {
            return refuse(NOT_SO);
        }
        walls.build();
        return answer(walls.wallAt(x, y, side));
    }

    public int mark(int i, int what) {
        if (!house.hasMark(i) || !isPartOfTwo(what)) {
            return refuse(NO_SUCH);
        }
        return answer(house.markPart(i, what));
    }

    // ---- points, by quarters from the west, from the north

    public int height(int px, int py, int what) {
        if (!house.stands() || !isPartOfTwo(what)) {
            return refuse(NO_SUCH);
        }
        if (!house.hasPoint(px, py)) {
            return refuse(BAD_NUMBER);
        }
        ratio.reduce(roof.heightOf(px, py), Roof.GRAIN);
        return answer((int) ratio.part(what));
    }

    public int slopes(int px, int py) {
        int wrong = pointTrouble(px, py);
        if (wrong != 0) {
            return refuse(wrong);
        }
        int high = roof.heightOf(px, py);
        return answer(roof.slopesAt(px, py, high));
    }

    public int drop(int px, int py) {
        int wrong = pointTrouble(px, py);
        if (wrong != 0) {
            return refuse(wrong);
        }
        walls.build();
        int high = roof.heightOf(px, py);
        return answer(roof.wallBelow(px, py, high, roof.slopesAt(px, py, high)));
    }

    public int catches(int i) {
        walls.build();
        if (!walls.has(i)) {
            return refuse(NO_SUCH);
        }
        roof.countFalls();
        return answer(roof.caughtBy(i));
    }

    public int faces(int set) {
        if (!house.stands()) {
            return refuse(NO_SUCH);
        }
        if (set < 0 || set >= 1 << SIDES) {
            return refuse(BAD_NUMBER);
        }
        roof.countFalls();
        return answer(roof.facing(set));
    }

    public int rim(int side) {
        if (!house.stands() || !isSide(side)) {
            return refuse(NO_SUCH);
        }
        walls.build();
        return answer(walls.lengthOfSide(side));
    }

    public int highest(int what) {
        if (!house.stands() || !isPartOfTwo(what)) {
            return refuse(NO_SUCH);
        }
        return answer(roof.highestPlace(what));
    }

    public int ranked(int i) {
        if (!house.hasMark(i)) {
            return refuse(NO_SUCH);
        }
        int found = 0;
        for (int mark = 0; mark < house.markCount; mark++) {
            if (countMarksAhead(mark) == i) {
                found = mark;
            }
        }
        return answer(found);
    }

    public int points(int a, int b) {
        int wrong = timeTrouble(a, b);
        if (wrong != 0) {
            return refuse(wrong);
        }
        return answer(roof.countAbove(a, b));
    }

    // ---- what is left

    public int pieces(int a, int b) {
        int wrong = timeTrouble(a, b);
        if (wrong != 0) {
            return refuse(wrong);
        }
        return answer(remains.countLeft(a, b));
    }

    public long area(int a, int b, int what) {
        if (!isPartOfTwo(what)) {
            return refuse(NO_SUCH);
        }
        int wrong = timeTrouble(a, b);
        if (wrong != 0) {
            return refuse(wrong);
        }
        ratio.reduce(remains.areaLeft(a, b), (long) b * b);
        return answerLong(ratio.part(what));
    }

    public long piece(int a, int b, int i, int what) {
        if (i < 0 || !isPartOfTwo(what)) {
            return refuse(NO_SUCH);
        }
        int wrong = timeTrouble(a, b);
        if (wrong != 0) {
            return refuse(wrong);
        }
        long size = remains.areaOfPart(a, b, i);
        if (size <= 0) {
            return refuse(NO_SUCH);
        }
        ratio.reduce(size, (long) b * b);
        return answerLong(ratio.part(what));
    }

    public int event(int k, int what) {
        if (!house.stands() || k < 0 || what < 0 || what >= Remains.TOLD) {
            return refuse(NO_SUCH);
        }
        remains.findEvents();
        return answer(remains.toldOf(k, what));
    }

    public int top(int what) {
        if (!house.stands() || !isPartOfTwo(what)) {
            return refuse(NO_SUCH);
        }
        // At its greatest height the last piece ends, so this is the last event's time.
        remains.findEvents();
        return answer(remains.toldOf(remains.eventCount - 1, what));
    }

    public int higher(int i, int j) {
        if (!house.hasMark(i) || !house.hasMark(j)) {
            return refuse(NO_SUCH);
        }
        int one = heightOfMark(i);
        int other = heightOfMark(j);
        if (one == other) {
            return answer(0);
        }
        return answer(one > other ? 1 : NOTHING);
    }

    public long under(int what) {
        if (!house.stands() || !isPartOfTwo(what)) {
            return refuse(NO_SUCH);
        }
        remains.sumUp(ratio);
        return answerLong(ratio.part(what));
    }

    public long would(int x, int y, int what) {
        if (!house.hasCell(x, y) || !isPartOfTwo(what)) {
            return refuse(NO_SUCH);
        }
        if (house.isLastInside(x, y)) {
            return refuse(NOT_SO);
        }
        house.flip(x, y);
        remains.sumUp(ratio);
        house.flip(x, y);
        return answerLong(ratio.part(what));
    }

    // ---- acts

    public int set(int x, int y, boolean is) {
        if (!house.hasCell(x, y)) {
            return refuse(NO_SUCH);
        }
        if (house.isInside(x, y) == is || house.isLastInside(x, y)) {
            return refuse(NOT_SO);
        }
        beginAct();
        house.flip(x, y);
        return answer(house.countInside());
    }

    public int runs(int side, int v) {
        if (!house.stands() || !isSide(side)) {
            return refuse(NO_SUCH);
        }
        if (v < 1 || v > MOST_SPEED) {
            return refuse(BAD_NUMBER);
        }
        beginAct();
        int was = house.pace(side);
        house.setPace(side, v);
        return answer(was);
    }

    public boolean turn(int what) {
        if (!house.stands() || !isPartOfTwo(what)) {
            refuse(NO_SUCH);
            return false;
        }
        beginAct();
        if (what == 0) {
            house.mirror();
        } else {
            house.overturn();
        }
        refusal = 0;
        return true;
    }

    public int grow() {
        if (!house.stands()) {
            return refuse(NO_SUCH);
        }
        beginAct();
        return answer(house.spread());
    }

    public int undo() {
        if (!house.stands()) {
            return refuse(NO_SUCH);
        }
        if (past.count <= 0) {
            return refuse(NOT_SO);
        }
        past.bringBack(house);
        forgetMeasures();
        return answer(past.count);
    }

    // ---- what is told

    public int row(int y) throws NoSuchElementException {
        if (!house.hasCell(0, y)) {
            throw new NoSuchElementException("no such row");
        }
        return house.lineAt(y);
    }

    public int bytes() {
        return tapeLength;
    }

    public int trouble() {
        return refusal;
    }

    // ---- what the calls share

    private int refuse(int number) {
        refusal = number;
        return NONE;
    }

    private int answer(int value) {
        refusal = 0;
        return value;
    }

    private long answerLong(long value) {
        refusal = 0;
        return value;
    }

    private void putBytes(int number) {
        for (int shift = 24; shift >= 0; shift -= 8) {
            if (tapeLength >= 0 && tapeLength < tape.length) {
                tape[tapeLength] = (byte) (number >> shift);
                tapeLength++;
            }
        }
    }

    private void beginAct() {
        past.keep(house);
        forgetMeasures();
    }

    private void forgetMeasures() {
        walls.built = false;
        roof.forget();
        remains.eventsFound = false;
    }

    private static boolean isSide(int side) {
        return side >= 0 && side < SIDES;
    }

    private static boolean isPartOfTwo(int what) {
        return what == 0 || what == 1;
    }

    private int pointTrouble(int px, int py) {
        if (!house.stands()) {
            return NO_SUCH;
        }
        return house.hasPoint(px, py) ? 0 : BAD_NUMBER;
    }

    private int timeTrouble(int a, int b) {
        if (!house.stands()) {
            return NO_SUCH;
        }
        boolean good = a >= 0 && a <= MOST_TIME_PART && b >= 1 && b <= MOST_TIME_PART;
        return good ? 0 : BAD_NUMBER;
    }

    private int heightOfMark(int i) {
        return roof.heightOf(house.markPart(i, 0), house.markPart(i, 1));
    }

    private int countMarksAhead(int mark) {
        int own = heightOfMark(mark);
        int ahead = 0;
        for (int other = 0; other < house.markCount; other++) {
            int its = heightOfMark(other);
            if (its > own || its == own && other < mark) {
                ahead++;
            }
        }
        return ahead;
    }

    /** A fraction in lowest terms; one object is used again for all answers. */
    private static final class Ratio {
        private long above = 0;
        private long below = 1;

        void reduce(long over, long by) {
            long common = commonFactor(over, by);
            if (common <= 0) {
                above = 0;
                below = 1;
                return;
            }
            above = over / common;
            below = by / common;
        }

        long part(int what) {
            return what == 0 ? above : below;
        }

        private static long commonFactor(long one, long other) {
            long a = one;
            long b = other;
            // Euclid's rule needs fewer than 100 steps for any two longs.
            for (int step = 0; step < 200 && b != 0; step++) {
                long rest = a % b;
                a = b;
                b = rest;
            }
            return a;
        }
    }

    /** The cells, speeds and marks; not wide at all while there is no house. */
    private static final class House {
        private int wide = 0;
        private int high = 0;
        private int markCount = 0;
        private final int[] lines = new int[MOST_HIGH];
        private final int[] paces = new int[SIDES];
        private final int[] marks = new int[2 * MOST_MARKS];

        boolean stands() {
            return wide > 0 && high > 0;
        }

        void clear() {
            wide = 0;
            high = 0;
            markCount = 0;
            Arrays.fill(lines, 0);
            Arrays.fill(paces, 1);
            Arrays.fill(marks, 0);
        }

        void become(House other) {
            wide = other.wide;
            high = other.high;
            markCount = other.markCount;
            System.arraycopy(other.lines, 0, lines, 0, MOST_HIGH);
            System.arraycopy(other.paces, 0, paces, 0, SIDES);
            System.arraycopy(other.marks, 0, marks, 0, 2 * MOST_MARKS);
        }

        boolean hasCell(int x, int y) {
            return x >= 0 && x < wide && y >= 0 && y < high;
        }

        boolean isInside(int x, int y) {
            return hasCell(x, y) && (lineAt(y) >> x & 1) == 1;
        }

        boolean isLastInside(int x, int y) {
            return isInside(x, y) && countInside() == 1;
        }

        boolean hasPoint(int px, int py) {
            return px >= 0 && px <= 4 * wide && py >= 0 && py <= 4 * high;
        }

        boolean hasMark(int i) {
            return i >= 0 && i < markCount;
        }

        /** The cells of a row that are inside, as bits; none beyond the frame. */
        int lineAt(int y) {
            return y >= 0 && y < high && y < lines.length ? lines[y] : 0;
        }

        void setLine(int y, int bits) {
            if (y >= 0 && y < lines.length) {
                lines[y] = bits;
            }
        }

        int pace(int side) {
            return side >= 0 && side < paces.length ? paces[side] : 1;
        }

        void setPace(int side, int v) {
            if (side >= 0 && side < paces.length) {
                paces[side] = v;
            }
        }

        int markPart(int i, int what) {
            int at = 2 * i + what;
            return at >= 0 && at < marks.length ? marks[at] : 0;
        }

        void addMark(int px, int py) {
            int at = 2 * markCount;
            if (at >= 0 && at + 1 < marks.length) {
                marks[at] = px;
                marks[at + 1] = py;
                markCount++;
            }
        }

        int countInside() {
            int count = 0;
            for (int y = 0; y < high; y++) {
                count += Integer.bitCount(lineAt(y));
            }
            return count;
        }

        void flip(int x, int y) {
            if (hasCell(x, y)) {
                setLine(y, lineAt(y) ^ (1 << x));
            }
        }

        void mirror() {
            for (int y = 0; y < high; y++) {
                int line = lineAt(y);
                int turned = 0;
                for (int x = 0; x < wide; x++) {
                    turned |= (line >> x & 1) << (wide - 1 - x);
                }
                setLine(y, turned);
            }
        }

        void overturn() {
            for (int y = 0; 2 * y < high - 1; y++) {
                int above = lineAt(y);
                setLine(y, lineAt(high - 1 - y));
                setLine(high - 1 - y, above);
            }
        }

        /** All cells beside those inside come inside; answers how many came. */
        int spread() {
            int before = countInside();
            int frame = (1 << wide) - 1;
            int above = 0;
            for (int y = 0; y < high; y++) {
                int line = lineAt(y);
                setLine(y, (line | line << 1 | line >> 1 | above | lineAt(y + 1)) & frame);
                above = line;
            }
            return countInside() - before;
        }
    }

    /** What the latest acts changed, as it was ahead of them. */
    private static final class Past {
        private static final int MOST_KEPT = 10;
        private static final int SIZE = MOST_HIGH + SIDES;

        private final int[] kept = new int[MOST_KEPT * SIZE];
        private int count = 0;

        void keep(House house) {
            if (count >= MOST_KEPT) {
                System.arraycopy(kept, SIZE, kept, 0, (MOST_KEPT - 1) * SIZE);
                count = MOST_KEPT - 1;
            }
            int at = count * SIZE;
            if (at >= 0 && at + SIZE <= kept.length) {
                System.arraycopy(house.lines, 0, kept, at, MOST_HIGH);
                System.arraycopy(house.paces, 0, kept, at + MOST_HIGH, SIDES);
                count++;
            }
        }

        void bringBack(House house) {
            int at = (count - 1) * SIZE;
            if (at >= 0 && at + SIZE <= kept.length) {
                System.arraycopy(kept, at, house.lines, 0, MOST_HIGH);
                System.arraycopy(kept, at + MOST_HIGH, house.paces, 0, SIDES);
                count--;
            }
        }
    }

    /** Reads a text into a draft, so that a faulty one leaves the house alone. */
    private static final class Reader {
        private static final int FORM = 1;
        private static final int BOUNDS = 2;
        private static final int AGAIN = 3;
        private static final int MANY = 4;
        private static final int EMPTY = 5;

        private static final int BLANK = 32;
        private static final int LONGEST_WORD = 14;
        private static final int LONGEST_WHOLE = 4;

        // Kinds of tokens; a single sign's kind is the sign.
        private static final int BAD = -1;
        private static final int END = 0;
        private static final int WORD = 1;
        private static final int WHOLE = 2;

        private final byte[] tape;
        private final House draft = new House();
        private int length = 0;
        private int next = 0;
        private int kind = END;
        private int start = 0;
        private boolean speedTold = false;
        private int faultNumber = 0;
        private int faultPlace = NONE;

        Reader(byte[] tape) {
            this.tape = tape;
        }

        /** Whether the first bytes of the tape are a text; the fault is told else. */
        boolean readText(int bytes) {
            length = bytes;
            next = 0;
            speedTold = false;
            faultNumber = 0;
            faultPlace = NONE;
            draft.clear();
            advance();
            if (!isWord("house")) {
                return fail(FORM);
            }
            if (!readRows()) {
                return false;
            }
            for (int line = 0; line <= TAPE_BYTES && kind == ';'; line++) {
                advance();
                if (!readLine()) {
                    return false;
                }
            }
            if (kind != END) {
                return fail(FORM);
            }
            return draft.countInside() > 0 || fail(EMPTY);
        }

        private boolean fail(int number) {
            faultNumber = number;
            faultPlace = start;
            return false;
        }

        private boolean readLine() {
            if (isWord("house")) {
                return fail(AGAIN);
            }
            if (isWord("speed")) {
                return speedTold ? fail(AGAIN) : readSpeeds();
            }
            if (isWord("mark")) {
                return draft.markCount >= MOST_MARKS ? fail(MANY) : readMark();
            }
            return fail(FORM);
        }

        private boolean readRows() {
            advance();
            if (!readRow()) {
                return false;
            }
            advance();
            for (int line = 0; line <= TAPE_BYTES && kind == '/'; line++) {
                advance();
                if (!readRow()) {
                    return false;
                }
                advance();
            }
            return true;
        }

        private boolean readRow() {
            if (kind != WORD) {
                return fail(FORM);
            }
            int size = next - start;
            if (draft.high > 0 && size != draft.wide) {
                return fail(BOUNDS);
            }
            int bits = 0;
            for (int x = 0; x < size; x++) {
                int sign = signAt(start + x);
                if (sign != 'x' && sign != 'o') {
                    return fail(BOUNDS);
                }
                bits |= sign == 'x' ? 1 << x : 0;
            }
            if (draft.high >= MOST_HIGH) {
                return fail(MANY);
            }
            draft.wide = size;
            draft.setLine(draft.high, bits);
            draft.high++;
            return true;
        }

        private boolean readSpeeds() {
            speedTold = true;
            for (int side = 0; side < SIDES; side++) {
                if (side > 0 && !readComma()) {
                    return false;
                }
                if (!readWhole(1, MOST_SPEED)) {
                    return false;
                }
                draft.setPace(side, wholeValue());
            }
            advance();
            return true;
        }

        private boolean readMark() {
            if (!readWhole(0, 4 * draft.wide)) {
                return false;
            }
            int px = wholeValue();
            if (!readComma() || !readWhole(0, 4 * draft.high)) {
                return false;
            }
            draft.addMark(px, wholeValue());
            advance();
            return true;
        }

        private boolean readComma() {
            advance();
            return kind == ',' || fail(FORM);
        }

        private boolean readWhole(int least, int most) {
            advance();
            if (kind != WHOLE) {
                return fail(FORM);
            }
            int value = wholeValue();
            return value >= least && value <= most || fail(BOUNDS);
        }

        private int wholeValue() {
            int value = 0;
            for (int at = start; at < next; at++) {
                value = value * 10 + (signAt(at) - '0');
            }
            return value;
        }

        private boolean isWord(String word) {
            if (kind != WORD || next - start != word.length()) {
                return false;
            }
            for (int i = 0; i < word.length(); i++) {
                if (signAt(start + i) != word.charAt(i)) {
                    return false;
                }
            }
            return true;
        }

        /** Goes on to the next token: from start, up to next. */
        private void advance() {
            start = next;
            for (int i = 0; i < TAPE_BYTES && signAt(start) == BLANK; i++) {
                start++;
            }
            int sign = signAt(start);
            int run = kindOfRun(sign);
            next = sign < 0 ? start : start + 1;
            for (int i = 0; i < TAPE_BYTES && run != BAD && kindOfRun(signAt(next)) == run; i++) {
                next++;
            }
            if (sign < 0) {
                kind = END;
            } else if (sign == ';' || sign == ',' || sign == '/') {
                kind = sign;
            } else {
                kind = next - start > longestRun(run) ? BAD : run;
            }
        }

        private static int kindOfRun(int sign) {
            if (sign >= 'a' && sign <= 'z') {
                return WORD;
            }
            return sign >= '0' && sign <= '9' ? WHOLE : BAD;
        }

        private static int longestRun(int run) {
            return run == WORD ? LONGEST_WORD : LONGEST_WHOLE;
        }

        /** The byte at a place of the text, 0 .. 255; -1 beyond its end. */
        private int signAt(int place) {
            return place >= 0 && place < length && place < tape.length ? tape[place] & 255 : -1;
        }
    }

    /** The walls, in their order, and in which of them each cell is. */
    private static final class Walls {
        private static final int TOLD = 4;
        /** Of each side at most every second cell of the frame begins a wall. */
        private static final int MOST = SIDES * MOST_CELLS / 2;

        private final House house;
        private final int[] told = new int[MOST * TOLD];
        private final int[] places = new int[SIDES * MOST_CELLS];
        private int count = 0;
        private boolean built = false;

        Walls(House house) {
            this.house = house;
        }

        void build() {
            if (built) {
                return;
            }
            built = true;
            count = 0;
            Arrays.fill(places, NOTHING);
            for (int side = 0; side < SIDES; side++) {
                boolean level = side == NORTH || side == SOUTH;
                int lanes = level ? house.high : house.wide;
                for (int lane = 0; lane < lanes; lane++) {
                    buildLane(side, lane, level);
                }
            }
        }

        private void buildLane(int side, int lane, boolean level) {
            int steps = level ? house.wide : house.high;
            boolean within = false;
            for (int step = 0; step < steps; step++) {
                int x = level ? step : lane;
                int y = level ? lane : step;
                boolean borders = house.isInside(x, y) && !house.isInside(besideX(x, side), besideY(y, side));
                if (borders && !within) {
                    begin(side, x, y);
                }
                if (borders) {
                    lengthen(side, x, y);
                }
                within = borders;
            }
        }

        private void begin(int side, int x, int y) {
            int at = count * TOLD;
            if (at >= 0 && at + 3 < told.length) {
                told[at] = side;
                told[at + 1] = x;
                told[at + 2] = y;
                told[at + 3] = 0;
                count++;
            }
        }

        private void lengthen(int side, int x, int y) {
            int last = count * TOLD - 1;
            int place = side * MOST_CELLS + y * MOST_WIDE + x;
            if (last >= 0 && last < told.length && place >= 0 && place < places.length) {
                told[last]++;
                places[place] = count - 1;
            }
        }

        boolean has(int i) {
            return i >= 0 && i < count;
        }

        int toldOf(int i, int what) {
            int at = i * TOLD + what;
            return at >= 0 && at < told.length ? told[at] : 0;
        }

        int wallAt(int x, int y, int side) {
            int place = side * MOST_CELLS + y * MOST_WIDE + x;
            return place >= 0 && place < places.length ? places[place] : NOTHING;
        }

        int lengthOfSide(int side) {
            int cells = 0;
            for (int i = 0; i < count; i++) {
                if (toldOf(i, 0) == side) {
                    cells += toldOf(i, 3);
                }
            }
            return cells;
        }

        private static int besideX(int x, int side) {
            if (side == EAST) {
                return x + 1;
            }
            return side == WEST ? x - 1 : x;
        }

        private static int besideY(int y, int side) {
            if (side == SOUTH) {
                return y + 1;
            }
            return side == NORTH ? y - 1 : y;
        }
    }

    /**
     * Heights of points, as whole numbers: a speed's time for a quarter of a cell is a whole number
     * of 10080ths (4 times the least number that all speeds divide), so all of this is exact.
     */
    private static final class Roof {
        private static final int GRAIN = 10080;
        private static final int[] QUARTER_TIMES = {0, 2520, 1260, 840, 630, 504, 420, 360, 315, 280};
        private static final int MOST_ACROSS = 4 * MOST_WIDE + 1;
        private static final int MOST_DOWN = 4 * MOST_HIGH + 1;
        private static final int NO_LANE = -9;

        private final House house;
        private final Walls walls;
        private final int[] times = new int[SIDES];
        private final int[] columns = new int[MOST_WIDE];
        /** By place from the west, row: the least time, along it alone, to a cell of it not inside. */
        private final int[] rowTimes = new int[MOST_ACROSS * MOST_HIGH];
        /** The same of each column, for one place from the north. */
        private final int[] columnTimes = new int[MOST_WIDE];
        private final int[] heights = new int[MOST_ACROSS * MOST_DOWN];
        private final int[] faceCounts = new int[1 << SIDES];
        private final int[] catchCounts = new int[Walls.MOST];
        private boolean readied = false;
        private boolean measured = false;
        private boolean counted = false;

        Roof(House house, Walls walls) {
            this.house = house;
            this.walls = walls;
        }

        void forget() {
            readied = false;
            measured = false;
            counted = false;
        }

        private void readyHouse() {
            if (readied) {
                return;
            }
            readied = true;
            for (int side = 0; side < times.length; side++) {
                int pace = house.pace(side);
                times[side] = pace >= 1 && pace < QUARTER_TIMES.length ? QUARTER_TIMES[pace] : QUARTER_TIMES[1];
            }
            for (int x = 0; x < columns.length; x++) {
                int bits = 0;
                for (int y = 0; y < house.high; y++) {
                    bits |= (house.lineAt(y) >> x & 1) << y;
                }
                columns[x] = bits;
            }
        }

        private int timeOf(int side) {
            return side >= 0 && side < times.length ? times[side] : 0;
        }

        private int columnAt(int x) {
            return x >= 0 && x < columns.length ? columns[x] : 0;
        }

        /** Beyond the frame no cell is inside: no time at all. */
        private int rowTime(int px, int y) {
            int at = px * MOST_HIGH + y;
            return y >= 0 && y < house.high && at >= 0 && at < rowTimes.length ? rowTimes[at] : 0;
        }

        private int columnTime(int x) {
            return x >= 0 && x < columnTimes.length ? columnTimes[x] : 0;
        }

        private void readyRows(int px) {
            for (int y = 0; y < house.high; y++) {
                int at = px * MOST_HIGH + y;
                if (at >= 0 && at < rowTimes.length) {
                    rowTimes[at] = nearestTime(house.lineAt(y), px, timeOf(EAST), timeOf(WEST));
                }
            }
        }

        private void readyColumns(int py) {
            for (int x = 0; x < columnTimes.length; x++) {
                columnTimes[x] = nearestTime(columnAt(x), py, timeOf(SOUTH), timeOf(NORTH));
            }
        }

        /** The least time, along a lane of cells, from a place in it to one that isn't inside. */
        private static int nearestTime(int lane, int place, int ahead, int behind) {
            int after = place / 4;
            int before = place % 4 == 0 ? after - 1 : after;
            if (!hasBit(lane, after) || !hasBit(lane, before)) {
                return 0;
            }
            int end = after;
            for (int i = 0; i < MOST_WIDE && hasBit(lane, end); i++) {
                end++;
            }
            int start = before;
            for (int i = 0; i < MOST_WIDE && hasBit(lane, start); i++) {
                start--;
            }
            return Math.min((4 * end - place) * ahead, (place - 4 * (start + 1)) * behind);
        }

        private static boolean hasBit(int bits, int i) {
            return i >= 0 && i < MOST_WIDE && (bits >> i & 1) == 1;
        }

        /** Of one point; its slopes, its wall can be asked for behind this. */
        int heightOf(int px, int py) {
            readyHouse();
            readyRows(px);
            readyColumns(py);
            return leastReach(px, py);
        }

        private int leastReach(int px, int py) {
            int south = py / 4;
            int north = py % 4 == 0 ? south - 1 : south;
            int best = Math.min(rowTime(px, north), rowTime(px, south));
            for (int y = north - 1; y >= -1; y--) {
                int time = (py - 4 * (y + 1)) * timeOf(NORTH);
                // Farther rows take still longer.
                if (time >= best) {
                    break;
                }
                best = Math.min(best, Math.max(time, rowTime(px, y)));
            }
            for (int y = south + 1; y <= house.high; y++) {
                int time = (4 * y - py) * timeOf(SOUTH);
                if (time >= best) {
                    break;
                }
                best = Math.min(best, Math.max(time, rowTime(px, y)));
            }
            return best;
        }

        int slopesAt(int px, int py, int high) {
            int set = 0;
            for (int side = 0; side < SIDES && high > 0; side++) {
                int lane = laneAt(side, px, py, high);
                int across = side == NORTH || side == SOUTH ? rowTime(px, lane) : columnTime(lane);
                if (lane != NO_LANE && across <= high) {
                    set |= 1 << side;
                }
            }
            return set;
        }

        /** The row or column of cells to which a side's time is just the height. */
        private int laneAt(int side, int px, int py, int high) {
            int time = timeOf(side);
            if (time <= 0 || high % time != 0) {
                return NO_LANE;
            }
            int far = high / time;
            boolean back = side == NORTH || side == WEST;
            int place = side == NORTH || side == SOUTH ? py : px;
            int rim = back ? place - far : place + far;
            if (rim < 0 || rim % 4 != 0) {
                return NO_LANE;
            }
            return back ? rim / 4 - 1 : rim / 4;
        }

        int wallBelow(int px, int py, int high, int slopes) {
            for (int side = 0; side < SIDES; side++) {
                if ((slopes >> side & 1) == 1) {
                    int wall = wallTouched(side, px, py, high);
                    if (wall != NOTHING) {
                        return wall;
                    }
                }
            }
            return NOTHING;
        }

        private int wallTouched(int side, int px, int py, int high) {
            int lane = laneAt(side, px, py, high);
            if (lane == NO_LANE) {
                return NOTHING;
            }
            int inner = side == NORTH || side == WEST ? lane + 1 : lane - 1;
            if (side == NORTH || side == SOUTH) {
                int x = firstTouched(house.lineAt(inner) & ~house.lineAt(lane), px, high, EAST, WEST);
                return x < 0 ? NOTHING : walls.wallAt(x, inner, side);
            }
            int y = firstTouched(columnAt(inner) & ~columnAt(lane), py, high, SOUTH, NORTH);
            return y < 0 ? NOTHING : walls.wallAt(inner, y, side);
        }

        private int firstTouched(int lane, int place, int high, int ahead, int behind) {
            for (int i = 0; i < MOST_WIDE; i++) {
                boolean near = (4 * i - place) * timeOf(ahead) <= high
                        && (place - 4 * (i + 1)) * timeOf(behind) <= high;
                if (near && hasBit(lane, i)) {
                    return i;
                }
            }
            return NONE;
        }

        private void measureAll() {
            if (measured) {
                return;
            }
            measured = true;
            readyHouse();
            for (int px = 0; px <= 4 * house.wide; px++) {
                readyRows(px);
            }
            for (int py = 0; py <= 4 * house.high; py++) {
                for (int px = 0; px <= 4 * house.wide; px++) {
                    int at = py * MOST_ACROSS + px;
                    if (at >= 0 && at < heights.length) {
                        heights[at] = leastReach(px, py);
                    }
                }
            }
        }

        private int measuredAt(int px, int py) {
            int at = py * MOST_ACROSS + px;
            return at >= 0 && at < heights.length ? heights[at] : 0;
        }

        /** How many points slope to each set of sides, and drop to each wall. */
        void countFalls() {
            if (counted) {
                return;
            }
            counted = true;
            measureAll();
            walls.build();
            Arrays.fill(faceCounts, 0);
            Arrays.fill(catchCounts, 0);
            for (int py = 0; py <= 4 * house.high; py++) {
                readyColumns(py);
                for (int px = 0; px <= 4 * house.wide; px++) {
                    countFall(px, py);
                }
            }
        }

        private void countFall(int px, int py) {
            int high = measuredAt(px, py);
            int set = slopesAt(px, py, high);
            if (set >= 0 && set < faceCounts.length) {
                faceCounts[set]++;
            }
            int wall = wallBelow(px, py, high, set);
            if (wall >= 0 && wall < catchCounts.length) {
                catchCounts[wall]++;
            }
        }

        int facing(int set) {
            return set >= 0 && set < faceCounts.length ? faceCounts[set] : 0;
        }

        int caughtBy(int wall) {
            return wall >= 0 && wall < catchCounts.length ? catchCounts[wall] : 0;
        }

        int highestPlace(int what) {
            measureAll();
            int best = -1;
            int place = 0;
            for (int py = 0; py <= 4 * house.high; py++) {
                for (int px = 0; px <= 4 * house.wide; px++) {
                    if (measuredAt(px, py) > best) {
                        best = measuredAt(px, py);
                        place = what == 0 ? px : py;
                    }
                }
            }
            return place;
        }

        int countAbove(int a, int b) {
            measureAll();
            int count = 0;
            for (int py = 0; py <= 4 * house.high; py++) {
                for (int px = 0; px <= 4 * house.wide; px++) {
                    if ((long) measuredAt(px, py) * b > (long) a * GRAIN) {
                        count++;
                    }
                }
            }
            return count;
        }
    }

    /**
     * What is left as time goes. A place is left at t if the window round it, as far as the walls
     * run by t, lies inside. A window (m + fx) wide, fx below 1, lies over m + 1 or m + 2 columns,
     * and likewise for rows. So the stands of m + 1 by n + 1 cells that all are inside tell
     * everything: stands side by side hang together, for what both cover is what the window between
     * them covers; and of each step from stand to stand a share of fx is window between them.
     */
    private static final class Remains {
        private static final int TOLD = 5;
        private static final int MOST_EVENTS = MOST_WIDE + MOST_HIGH;

        private final House house;
        private final int[] stands = new int[MOST_HIGH];
        private final int[] later = new int[MOST_HIGH];
        private final int[] part = new int[MOST_HIGH];
        private final int[] laterPart = new int[MOST_HIGH];
        private final int[] rest = new int[MOST_HIGH];
        private final int[] events = new int[MOST_EVENTS * TOLD];
        private final Ratio time = new Ratio();
        private int eventCount = 0;
        private boolean eventsFound = false;

        Remains(House house) {
            this.house = house;
        }

        private int runAcross() {
            return house.pace(EAST) + house.pace(WEST);
        }

        private int runDown() {
            return house.pace(NORTH) + house.pace(SOUTH);
        }

        /** The stands of (across + 1) by (down + 1) cells inside, told by their first cells. */
        private void findStands(int[] into, int across, int down) {
            Arrays.fill(into, 0);
            for (int y = 0; y < into.length && y + down < house.high; y++) {
                int shared = house.lineAt(y);
                for (int k = 1; k <= down; k++) {
                    shared &= house.lineAt(y + k);
                }
                int first = shared;
                for (int k = 1; k <= across && k <= MOST_WIDE; k++) {
                    first &= shared >> k;
                }
                into[y] = first;
            }
        }

        /** Stands at a/b; those of a house that is gone by then are none. */
        private void findStandsAt(long a, long b) {
            if (b <= 0) {
                Arrays.fill(stands, 0);
                return;
            }
            int across = (int) Math.min(a * runAcross() / b, MOST_WIDE);
            int down = (int) Math.min(a * runDown() / b, MOST_HIGH);
            findStands(stands, across, down);
        }

        /** The area, by b * b, that places hold at a/b whose stands are these. */
        private long weigh(int[] set, long a, long b) {
            if (b <= 0) {
                return 0;
            }
            long singles = 0;
            long across = 0;
            long down = 0;
            long blocks = 0;
            for (int y = 0; y < set.length; y++) {
                int line = set[y];
                int next = y + 1 < set.length ? set[y + 1] : 0;
                singles += Integer.bitCount(line);
                across += Integer.bitCount(line & line >> 1);
                down += Integer.bitCount(line & next);
                blocks += Integer.bitCount(line & line >> 1 & next & next >> 1);
            }
            long x = a * runAcross() % b;
            long y = a * runDown() % b;
            return (singles * (b - x) + across * x) * (b - y) + (down * (b - x) + blocks * x) * y;
        }

        long areaLeft(long a, long b) {
            findStandsAt(a, b);
            return weigh(stands, a, b);
        }

        int countLeft(int a, int b) {
            findStandsAt(a, b);
            return countParts(stands, part);
        }

        /** 0, if there are not so many parts. */
        long areaOfPart(int a, int b, int i) {
            findStandsAt(a, b);
            for (int k = 0; k < MOST_CELLS && takePart(stands, part); k++) {
                if (k == i) {
                    return weigh(part, a, b);
                }
            }
            return 0;
        }

        /** Takes all parts out, so that nothing stays. */
        private static int countParts(int[] from, int[] taken) {
            int count = 0;
            for (int k = 0; k < MOST_CELLS && takePart(from, taken); k++) {
                count++;
            }
            return count;
        }

        /** Takes out the part that comes farthest north, of like ones farthest west. */
        private static boolean takePart(int[] from, int[] taken) {
            Arrays.fill(taken, 0);
            boolean found = false;
            for (int y = 0; y < from.length && y < taken.length && !found; y++) {
                found = from[y] != 0;
                taken[y] = from[y] & -from[y];
            }
            boolean grown = found;
            // Each round but the last takes at least one cell more.
            for (int round = 0; round <= MOST_CELLS && grown; round++) {
                grown = growPart(from, taken);
            }
            for (int y = 0; y < from.length && y < taken.length; y++) {
                from[y] &= ~taken[y];
            }
            return found;
        }

        private static boolean growPart(int[] from, int[] taken) {
            boolean grown = false;
            for (int y = 0; y < from.length && y < taken.length; y++) {
                int near = taken[y] | taken[y] << 1 | taken[y] >> 1;
                near |= y > 0 ? taken[y - 1] : 0;
                near |= y + 1 < taken.length ? taken[y + 1] : 0;
                near &= from[y];
                grown = grown || near != taken[y];
                taken[y] = near;
            }
            return grown;
        }

        /** Pieces change only when a window comes to lie over one column or row more. */
        void findEvents() {
            if (eventsFound) {
                return;
            }
            eventsFound = true;
            eventCount = 0;
            int across = 0;
            int down = 0;
            for (int step = 0; step < MOST_EVENTS && across < house.wide && down < house.high; step++) {
                findStands(stands, across, down);
                int order = (across + 1) * runDown() - (down + 1) * runAcross();
                if (order <= 0) {
                    across++;
                    time.reduce(across, runAcross());
                }
                if (order >= 0) {
                    down++;
                    time.reduce(down, runDown());
                }
                findStands(later, across, down);
                noteChanges();
            }
        }

        private void noteChanges() {
            int ended = 0;
            int split = 0;
            int behind = 0;
            for (int k = 0; k < MOST_CELLS && takePart(stands, part); k++) {
                for (int y = 0; y < MOST_HIGH; y++) {
                    rest[y] = later[y] & part[y];
                }
                int parts = countParts(rest, laterPart);
                behind += parts;
                ended += parts == 0 ? 1 : 0;
                split += parts > 1 ? 1 : 0;
            }
            int at = eventCount * TOLD;
            if (ended + split > 0 && at >= 0 && at + TOLD <= events.length) {
                events[at] = (int) time.part(0);
                events[at + 1] = (int) time.part(1);
                events[at + 2] = ended;
                events[at + 3] = split;
                events[at + 4] = behind;
                eventCount++;
            }
        }

        int toldOf(int k, int what) {
            if (k < 0 || k >= eventCount) {
                return NOTHING;
            }
            int at = k * TOLD + what;
            return at >= 0 && at < events.length ? events[at] : NOTHING;
        }

        /**
         * The whole under the roof. Between two changes the area is a polynomial of t, of degree 2,
         * for which Simpson's rule is exact; by this grain the times of changes are even.
         */
        void sumUp(Ratio into) {
            long grain = 2L * runAcross() * runDown();
            long sum = 0;
            long from = 0;
            long first = areaLeft(0, grain);
            int across = 1;
            int down = 1;
            for (int step = 0; step < MOST_EVENTS && first > 0; step++) {
                long toAcross = 2L * across * runDown();
                long toDown = 2L * down * runAcross();
                long to = Math.min(toAcross, toDown);
                long last = areaLeft(to, grain);
                sum += (to - from) * (first + 4 * areaLeft((from + to) / 2, grain) + last);
                across += to == toAcross ? 1 : 0;
                down += to == toDown ? 1 : 0;
                from = to;
                first = last;
            }
            into.reduce(sum, 6 * grain * grain * grain);
        }
    }
}
