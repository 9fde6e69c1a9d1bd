import java.util.Arrays;

/**
 * Embroidery planning: a cloth of coloured cells, whose fields of equal colour are sewn in rows, along or across.
 *
 * <p>A cell is held by its place, 8 * y + x, whatever the width of the cloth is, so that a place never moves when the
 * cloth is replaced; the document's number w * y + x of a cell is made only for answers. Every array is made once,
 * when the object is made.
 */
public final class SewnFields {

    public static final int BAD = -1, STATE = -2, FULL = -3, NONE = -9;

    private static final int MAX_WIDTH = 8, MAX_HEIGHT = 6, PLACES = MAX_WIDTH * MAX_HEIGHT;
    private static final int BARE = 0, COLOURS = 3;
    private static final int ALONG = 0, ACROSS = 1;
    private static final int PARTS = 1, TRAVEL = 3;
    private static final int MAX_RANK = 9, MAX_MOST = 5, MAX_PULL = 2;
    private static final int MAX_LETTER = 255, MAX_TEXT = 120, FAULT = -10;
    private static final int MAX_OBSERVATIONS = 6, MAX_FIGURE = 99;
    private static final int MAX_CHANGES = 6, SNAPSHOTS = 2, MAX_ORDERED = 10;
    private static final int SIDES = 4;

    private final Cloth cloth = new Cloth();
    private final Text text = new Text();
    private final Reader reader = new Reader();
    private final FieldMap map = new FieldMap();
    private final Sewing sewing = new Sewing();
    private final SewingOrder plan = new SewingOrder();
    private final Observations observations = new Observations();
    private final History history = new History();
    private final int[][] snapshots = new int[SNAPSHOTS][Cloth.SIZE];
    private final boolean[] saved = new boolean[SNAPSHOTS];

    /** Creates a cloth of one bare cell, with an empty text, no observations and no snapshots. */
    public SewnFields() {
    }

    // ---- the text

    /** Appends a character to the text. */
    public int type(int letter) {
        if (!within(letter, 0, MAX_LETTER)) {
            return BAD;
        }
        if (text.length() >= MAX_TEXT) {
            return FULL;
        }
        text.append((char) letter);
        return text.length();
    }

    /** Empties the text. */
    public int clear() {
        int length = text.length();
        text.drop();
        return length;
    }

    /** Replaces the cloth by that of the text. */
    public int tells() {
        int items = reader.read(text);
        if (items < 0) {
            return items;
        }
        history.push(cloth);
        cloth.copy(reader.told());
        text.drop();
        map.number(cloth);
        return items;
    }

    // ---- changes

    /** Gives all cells of a rectangle a colour. */
    public int paints(int x, int y, int x2, int y2, int colour) {
        if (!cloth.has(x, y) || !cloth.has(x2, y2) || x2 < x || y2 < y || !within(colour, BARE, COLOURS)) {
            return BAD;
        }
        int others = cellsOfOtherColour(x, y, x2, y2, colour);
        if (others == 0) {
            return STATE;
        }
        history.push(cloth);
        for (int line = y; line <= y2; line++) {
            for (int column = x; column <= x2; column++) {
                cloth.paint(placeOf(column, line), colour);
            }
        }
        map.number(cloth);
        return others;
    }

    /** Sets the direction of a colour. */
    public int ways(int colour, int way) {
        if (!within(colour, 1, COLOURS) || !within(way, ALONG, ACROSS)) {
            return BAD;
        }
        return change(Cloth.WAYS + colour, way);
    }

    /** Sets the rank of a colour. */
    public int ranks(int colour, int rank) {
        if (!within(colour, 1, COLOURS) || !within(rank, 0, MAX_RANK)) {
            return BAD;
        }
        return change(Cloth.RANKS + colour, rank);
    }

    /** Sets the greatest stitch length. */
    public int mosts(int n) {
        return within(n, 1, MAX_MOST) ? change(Cloth.MOST, n) : BAD;
    }

    /** Sets the pull. */
    public int pulls(int n) {
        return within(n, 0, MAX_PULL) ? change(Cloth.PULL, n) : BAD;
    }

    /** Undoes the latest change that can be undone. */
    public int undo() {
        if (history.size() == 0) {
            return STATE;
        }
        history.pop(cloth);
        map.number(cloth);
        return history.size();
    }

    // ---- fields

    /** Returns a property of a cell. */
    public int cell(int x, int y, int what) {
        if (!cloth.has(x, y) || !within(what, 0, 1)) {
            return BAD;
        }
        int place = placeOf(x, y);
        return what == 0 ? cloth.colourAt(place) : map.fieldAt(place);
    }

    /** Returns a property of a field. */
    public int field(int f, int what) {
        if (!map.has(f) || !within(what, 0, 7)) {
            return BAD;
        }
        switch (what) {
            case 0:
                return map.colourOf(f);
            case 1:
                return map.sizeOf(f);
            case 2:
                return cloth.numberOf(map.smallestOf(f));
            case 3:
                return betterWay(f);
            case 7:
                return map.touching(f);
            default:
                return covered(f, what);
        }
    }

    /** Returns a figure of a field for a direction. */
    public int sewn(int f, int way, int what) {
        if (!map.has(f) || !within(way, ALONG, ACROSS) || !within(what, 0, TRAVEL)) {
            return BAD;
        }
        sewing.lay(cloth, map, f, way);
        return sewing.figure(cloth, what);
    }

    /** Returns a property of a row of a field for a direction. */
    public int row(int f, int way, int r, int what) {
        if (!map.has(f) || !within(way, ALONG, ACROSS) || r < 0 || !within(what, 0, 3)) {
            return BAD;
        }
        sewing.lay(cloth, map, f, way);
        if (r >= sewing.rowsLaid()) {
            return NONE;
        }
        switch (what) {
            case 0:
                return cloth.numberOf(sewing.rowStart(r));
            case 1:
                return sewing.rowLength(r);
            case 2:
                return sewing.rowStitches(r);
            default:
                return sewing.rowPart(r);
        }
    }

    /** Returns a property of a part of a field for a direction. */
    public int part(int f, int way, int p, int what) {
        if (!map.has(f) || !within(way, ALONG, ACROSS) || p < 0 || !within(what, 0, 3)) {
            return BAD;
        }
        sewing.lay(cloth, map, f, way);
        if (p >= sewing.partsLaid()) {
            return NONE;
        }
        switch (what) {
            case 0:
                return sewing.partRows(p);
            case 1:
                return cloth.numberOf(sewing.partStart(p));
            case 2:
                return cloth.numberOf(sewing.partEnd(p));
            default:
                return sewing.hiddenWay(cloth, p);
        }
    }

    /** Returns a part of the order of sewing. */
    public int order(int k) {
        if (k < -1) {
            return BAD;
        }
        if (map.size() > MAX_ORDERED) {
            return FULL;
        }
        if (map.size() == 0) {
            return NONE;
        }
        plan.lay(cloth, map);
        return k == -1 ? plan.changes() : plan.fieldAt(k);
    }

    // ---- observations

    /** Adds an observation: an unknown field has, for a direction, a certain figure. */
    public int sees(int way, int what, int n) {
        if (!within(way, ALONG, ACROSS) || !within(what, 0, TRAVEL) || !within(n, 0, MAX_FIGURE)) {
            return BAD;
        }
        if (observations.size() >= MAX_OBSERVATIONS) {
            return FULL;
        }
        observations.add(way, what, n);
        return observations.size();
    }

    /** Removes all observations. */
    public int forget() {
        int size = observations.size();
        observations.drop();
        return size;
    }

    /** Finds the fields of the present cloth for which all observations are right. */
    public int which(int what) {
        if (!within(what, 0, 1)) {
            return BAD;
        }
        int found = 0;
        int smallest = NONE;
        for (int f = 0; f < map.size(); f++) {
            if (observations.agree(cloth, map, sewing, f)) {
                found++;
                smallest = smallest == NONE ? f : smallest;
            }
        }
        return what == 0 ? found : smallest;
    }

    // ---- snapshots and counts

    /** Saves the cloth as a snapshot. */
    public int keep(int image) {
        if (image < 0 || image >= SNAPSHOTS) {
            return BAD;
        }
        cloth.saveTo(snapshots[image]);
        saved[image] = true;
        return map.size();
    }

    /** Restores a snapshot. */
    public int back(int image) {
        if (image < 0 || image >= SNAPSHOTS) {
            return BAD;
        }
        if (!saved[image]) {
            return STATE;
        }
        cloth.loadFrom(snapshots[image]);
        history.drop();
        map.number(cloth);
        return map.size();
    }

    /** Returns a count. */
    public int count(int what) {
        switch (what) {
            case 0:
                return cloth.width();
            case 1:
                return cloth.height();
            case 2:
                return map.size();
            case 3:
                return cloth.most();
            case 4:
                return cloth.pull();
            case 5:
                return map.cells();
            case 6:
                return observations.size();
            case 7:
                return text.length();
            case 8:
                return history.size();
            default:
                return BAD;
        }
    }

    // ---- what the methods above share

    private int change(int index, int value) {
        int before = cloth.get(index);
        if (before == value) {
            return STATE;
        }
        history.push(cloth);
        cloth.set(index, value);
        return before;
    }

    private int cellsOfOtherColour(int x, int y, int x2, int y2, int colour) {
        int others = 0;
        for (int line = y; line <= y2; line++) {
            for (int column = x; column <= x2; column++) {
                if (cloth.colourAt(placeOf(column, line)) != colour) {
                    others++;
                }
            }
        }
        return others;
    }

    private int betterWay(int f) {
        // the figures are numbered as they decide: parts, stitches, travel
        for (int what = PARTS; what <= TRAVEL; what++) {
            sewing.lay(cloth, map, f, ALONG);
            int along = sewing.figure(cloth, what);
            sewing.lay(cloth, map, f, ACROSS);
            int across = sewing.figure(cloth, what);
            if (along != across) {
                return along < across ? ALONG : ACROSS;
            }
        }
        return ALONG;
    }

    private int covered(int f, int what) {
        int colour = map.colourOf(f);
        sewing.lay(cloth, map, f, cloth.wayOf(colour));
        sewing.cover(cloth);
        if (what == 4) {
            return sewing.coveredCells();
        }
        int bare = sewing.coveredOf(cloth, BARE);
        return what == 6 ? bare : sewing.coveredCells() - bare - sewing.coveredOf(cloth, colour);
    }

    private static boolean within(int n, int low, int high) {
        return n >= low && n <= high;
    }

    private static int at(int[] numbers, int i) {
        return i >= 0 && i < numbers.length ? numbers[i] : NONE;
    }

    private static void put(int[] numbers, int i, int n) {
        if (i >= 0 && i < numbers.length) {
            numbers[i] = n;
        }
    }

    private static void wipe(boolean[] marks) {
        for (int i = 0; i < marks.length; i++) {
            marks[i] = false;
        }
    }

    private static int countTrue(boolean[] marks) {
        int n = 0;
        for (boolean mark : marks) {
            n += mark ? 1 : 0;
        }
        return n;
    }

    /** Returns the place of a cell, NONE beyond the largest cloth. */
    private static int placeOf(int x, int y) {
        return within(x, 0, MAX_WIDTH - 1) && within(y, 0, MAX_HEIGHT - 1) ? MAX_WIDTH * y + x : NONE;
    }

    /** Returns the place at a side (0 to 3) of a place, NONE beyond the largest cloth. */
    private static int beside(int place, int side) {
        if (place < 0 || place >= PLACES) {
            return NONE;
        }
        switch (side) {
            case 0:
                return place >= MAX_WIDTH ? place - MAX_WIDTH : NONE;
            case 1:
                return place % MAX_WIDTH > 0 ? place - 1 : NONE;
            case 2:
                return place % MAX_WIDTH < MAX_WIDTH - 1 ? place + 1 : NONE;
            case 3:
                return place < PLACES - MAX_WIDTH ? place + MAX_WIDTH : NONE;
            default:
                return NONE;
        }
    }

    /** All that a change can alter, in one array, so that every change is kept and undone in the same manner. */
    private static final class Cloth {

        /** Where the values stand; those of a colour at WAYS and RANKS plus the colour, a cell at CELLS plus its place. */
        static final int WIDTH = 0, HEIGHT = 1, MOST = 2, PULL = 3, WAYS = 4, RANKS = 8, CELLS = 12;
        static final int SIZE = CELLS + PLACES;
        private static final int FIRST_MOST = 3;

        private final int[] values = new int[SIZE];

        Cloth() {
            start();
        }

        /** Makes it the cloth that a new object has. */
        void start() {
            Arrays.fill(values, 0);
            values[WIDTH] = 1;
            values[HEIGHT] = 1;
            values[MOST] = FIRST_MOST;
        }

        int get(int index) {
            return at(values, index);
        }

        void set(int index, int value) {
            put(values, index, value);
        }

        void paint(int place, int colour) {
            if (place >= 0 && place < PLACES) {
                values[CELLS + place] = colour;
            }
        }

        int width() {
            return values[WIDTH];
        }

        int height() {
            return values[HEIGHT];
        }

        int most() {
            return values[MOST];
        }

        int pull() {
            return values[PULL];
        }

        int wayOf(int colour) {
            return within(colour, 1, COLOURS) ? values[WAYS + colour] : ALONG;
        }

        int rankOf(int colour) {
            return within(colour, 1, COLOURS) ? values[RANKS + colour] : 0;
        }

        boolean has(int x, int y) {
            return within(x, 0, width() - 1) && within(y, 0, height() - 1);
        }

        /** Returns the colour at a place; beyond the cloth all is bare. */
        int colourAt(int place) {
            return place >= 0 && place < PLACES ? values[CELLS + place] : BARE;
        }

        /** Returns the document's number of the cell at a place. */
        int numberOf(int place) {
            return width() * (place / MAX_WIDTH) + place % MAX_WIDTH;
        }

        /** Tells whether a cell of the one colour lies beside a cell of the other one. */
        boolean touch(int colour, int other) {
            for (int place = 0; place < PLACES; place++) {
                if (colourAt(place) == colour && isBeside(place, other)) {
                    return true;
                }
            }
            return false;
        }

        private boolean isBeside(int place, int colour) {
            for (int side = 0; side < SIDES; side++) {
                if (colourAt(beside(place, side)) == colour) {
                    return true;
                }
            }
            return false;
        }

        void copy(Cloth other) {
            loadFrom(other.values);
        }

        void saveTo(int[] row) {
            if (row != null && row.length == SIZE) {
                System.arraycopy(values, 0, row, 0, SIZE);
            }
        }

        void loadFrom(int[] row) {
            if (row != null && row.length == SIZE) {
                System.arraycopy(row, 0, values, 0, SIZE);
            }
        }
    }

    /** The text of a cloth, and its tokens one after another. */
    private static final class Text {

        private static final int END = 0, BLANK = 1, WORD = 2, DIGITS = 3, SEMICOLON = 4, OTHER = 5;

        private final char[] letters = new char[MAX_TEXT];
        private int length;
        /** The present token: what it is, its first character, and the character after it. */
        private int kind;
        private int start;
        private int end;

        int length() {
            return length;
        }

        void append(char letter) {
            if (length >= 0 && length < letters.length) {
                letters[length] = letter;
                length++;
            }
        }

        void drop() {
            length = 0;
        }

        void toFirstToken() {
            end = 0;
            toNextToken();
        }

        void toNextToken() {
            start = end;
            while (start < length && kindAt(start) == BLANK) {
                start++;
            }
            kind = kindAt(start);
            end = kind == END ? start : start + 1;
            while (end < length && (kind == WORD || kind == DIGITS) && kindAt(end) == kind) {
                end++;
            }
        }

        int tokenStart() {
            return start;
        }

        boolean isAtEnd() {
            return kind == END;
        }

        boolean isSemicolon() {
            return kind == SEMICOLON;
        }

        boolean isWord(String word) {
            if (kind != WORD || end - start != word.length()) {
                return false;
            }
            for (int i = 0; i < word.length(); i++) {
                if (tokenLetter(i) != word.charAt(i)) {
                    return false;
                }
            }
            return true;
        }

        /** Tells whether the token is a run of so many digits, all of them from low to high. */
        boolean isDigits(int least, int most, int low, int high) {
            if (kind != DIGITS || !within(end - start, least, most)) {
                return false;
            }
            for (int i = 0; i < end - start; i++) {
                if (!within(tokenLetter(i) - '0', low, high)) {
                    return false;
                }
            }
            return true;
        }

        int tokenLength() {
            return end - start;
        }

        int digit(int i) {
            return tokenLetter(i) - '0';
        }

        private char tokenLetter(int i) {
            int place = start + i;
            return place >= 0 && place < letters.length ? letters[place] : ' ';
        }

        private int kindAt(int i) {
            if (i < 0 || i >= length || i >= letters.length) {
                return END;
            }
            char letter = letters[i];
            if (letter >= 'a' && letter <= 'z') {
                return WORD;
            }
            if (letter >= '0' && letter <= '9') {
                return DIGITS;
            }
            if (letter == ' ') {
                return BLANK;
            }
            return letter == ';' ? SEMICOLON : OTHER;
        }
    }

    /**
     * Reads a cloth from a text. Each of the private methods goes past tokens that can stand there and returns true, or
     * stays at the first one that cannot and returns false.
     */
    private static final class Reader {

        private final Cloth told = new Cloth();
        private int rows;

        Cloth told() {
            return told;
        }

        /** Returns the number of items, or FAULT - p for the fault p. */
        int read(Text text) {
            told.start();
            rows = 0;
            text.toFirstToken();
            int items = 0;
            while (items < MAX_TEXT && !text.isAtEnd()) {
                if (!passItem(text)) {
                    return FAULT - text.tokenStart();
                }
                items++;
            }
            return rows == 0 ? FAULT - text.tokenStart() : items;
        }

        private boolean passItem(Text text) {
            if (text.isWord("row") && rows < MAX_HEIGHT) {
                text.toNextToken();
                return passCells(text) && passSemicolon(text);
            }
            if (text.isWord("way")) {
                return passOfColour(text, Cloth.WAYS, ACROSS) && passSemicolon(text);
            }
            if (text.isWord("rank")) {
                return passOfColour(text, Cloth.RANKS, MAX_RANK) && passSemicolon(text);
            }
            if (text.isWord("most")) {
                text.toNextToken();
                return passValue(text, Cloth.MOST, 1, MAX_MOST) && passSemicolon(text);
            }
            if (text.isWord("pull")) {
                text.toNextToken();
                return passValue(text, Cloth.PULL, 0, MAX_PULL) && passSemicolon(text);
            }
            return false;
        }

        private boolean passCells(Text text) {
            int least = rows == 0 ? 1 : told.width();
            int most = rows == 0 ? MAX_WIDTH : told.width();
            if (!text.isDigits(least, most, BARE, COLOURS)) {
                return false;
            }
            for (int x = 0; x < text.tokenLength(); x++) {
                told.paint(placeOf(x, rows), text.digit(x));
            }
            rows++;
            told.set(Cloth.WIDTH, text.tokenLength());
            told.set(Cloth.HEIGHT, rows);
            text.toNextToken();
            return true;
        }

        private boolean passOfColour(Text text, int first, int high) {
            text.toNextToken();
            if (!text.isDigits(1, 1, 1, COLOURS)) {
                return false;
            }
            int colour = text.digit(0);
            text.toNextToken();
            return passValue(text, first + colour, 0, high);
        }

        private boolean passValue(Text text, int index, int low, int high) {
            if (!text.isDigits(1, 1, low, high)) {
                return false;
            }
            told.set(index, text.digit(0));
            text.toNextToken();
            return true;
        }

        private boolean passSemicolon(Text text) {
            if (!text.isSemicolon()) {
                return false;
            }
            text.toNextToken();
            return true;
        }
    }

    /** The cloths before the latest changes, in a ring whose oldest one gives way. */
    private static final class History {

        private final int[][] before = new int[MAX_CHANGES][Cloth.SIZE];
        private int next;
        private int size;

        int size() {
            return size;
        }

        void drop() {
            size = 0;
        }

        void push(Cloth cloth) {
            if (within(next, 0, MAX_CHANGES - 1)) {
                cloth.saveTo(before[next]);
            }
            next = next + 1 < MAX_CHANGES ? next + 1 : 0;
            size = Math.min(size + 1, MAX_CHANGES);
        }

        void pop(Cloth cloth) {
            next = next > 0 ? next - 1 : MAX_CHANGES - 1;
            if (within(next, 0, MAX_CHANGES - 1)) {
                cloth.loadFrom(before[next]);
            }
            size = Math.max(size - 1, 0);
        }
    }

    /** Steps over sides from one place, within its colour and so within its field. */
    private static final class Wave {

        private final int[] reached = new int[PLACES];
        private final int[] steps = new int[PLACES];
        private int size;

        void spread(Cloth cloth, int from) {
            Arrays.fill(steps, NONE);
            size = 0;
            reach(from, 0);
            for (int i = 0; i < size && i < PLACES; i++) {
                int place = reached[i];
                for (int side = 0; side < SIDES; side++) {
                    int next = beside(place, side);
                    if (cloth.colourAt(next) == cloth.colourAt(from) && stepsTo(next) == NONE) {
                        reach(next, stepsTo(place) + 1);
                    }
                }
            }
        }

        int size() {
            return size;
        }

        int place(int i) {
            return at(reached, i);
        }

        /** Returns the fewest steps to a place, NONE if it is not reached. */
        int stepsTo(int place) {
            return place >= 0 && place < PLACES ? steps[place] : NONE;
        }

        private void reach(int place, int n) {
            if (place >= 0 && place < PLACES && size >= 0 && size < PLACES) {
                reached[size] = place;
                steps[place] = n;
                size++;
            }
        }
    }

    /** The fields of a cloth, numbered by their smallest cells. */
    private static final class FieldMap {

        private final Wave wave = new Wave();
        private final int[] fields = new int[PLACES];
        private final int[] colours = new int[PLACES];
        private final int[] sizes = new int[PLACES];
        private final int[] smallest = new int[PLACES];
        private final boolean[] touched = new boolean[PLACES];
        private int size;
        private int cells;

        FieldMap() {
            Arrays.fill(fields, NONE);
        }

        void number(Cloth cloth) {
            Arrays.fill(fields, NONE);
            size = 0;
            cells = 0;
            for (int place = 0; place < PLACES; place++) {
                if (cloth.colourAt(place) != BARE && fields[place] == NONE) {
                    addField(cloth, place);
                }
            }
        }

        private void addField(Cloth cloth, int first) {
            wave.spread(cloth, first);
            for (int i = 0; i < wave.size(); i++) {
                put(fields, wave.place(i), size);
            }
            put(colours, size, cloth.colourAt(first));
            put(sizes, size, wave.size());
            put(smallest, size, first);
            cells += wave.size();
            size++;
        }

        boolean has(int f) {
            return f >= 0 && f < size;
        }

        int size() {
            return size;
        }

        /** Returns the number of the cells in all fields. */
        int cells() {
            return cells;
        }

        /** Returns the field at a place, NONE if there is none. */
        int fieldAt(int place) {
            return at(fields, place);
        }

        int colourOf(int f) {
            return at(colours, f);
        }

        int sizeOf(int f) {
            return at(sizes, f);
        }

        int smallestOf(int f) {
            return at(smallest, f);
        }

        /** Returns how many fields touch a field. */
        int touching(int f) {
            wipe(touched);
            for (int place = 0; place < PLACES; place++) {
                if (fields[place] == f) {
                    markBeside(place, f);
                }
            }
            return countTrue(touched);
        }

        private void markBeside(int place, int f) {
            for (int side = 0; side < SIDES; side++) {
                int other = fieldAt(beside(place, side));
                if (other >= 0 && other < PLACES && other != f) {
                    touched[other] = true;
                }
            }
        }
    }

    /**
     * The rows and parts of one field for one direction. A position is the place within a line: the column for rows
     * along, the line of the cloth for rows across.
     */
    private static final class Sewing {

        private final Wave wave = new Wave();
        // of the rows: line, positions and places of the first and the last cell, part
        private final int[] lines = new int[PLACES];
        private final int[] firsts = new int[PLACES];
        private final int[] lasts = new int[PLACES];
        private final int[] starts = new int[PLACES];
        private final int[] ends = new int[PLACES];
        private final int[] parts = new int[PLACES];
        // of the parts: first and last row, number of rows
        private final int[] startRows = new int[PLACES];
        private final int[] endRows = new int[PLACES];
        private final int[] sizes = new int[PLACES];
        private final boolean[] covered = new boolean[PLACES];
        private int way;
        private int most;
        private int rowsLaid;
        private int partsLaid;

        void lay(Cloth cloth, FieldMap map, int f, int newWay) {
            way = newWay;
            most = cloth.most();
            findRows(cloth, map, f);
            joinRows();
        }

        int rowsLaid() {
            return rowsLaid;
        }

        int rowStart(int r) {
            return at(starts, r);
        }

        int rowLength(int r) {
            return at(lasts, r) - at(firsts, r) + 1;
        }

        int rowStitches(int r) {
            return most < 1 ? 0 : (rowLength(r) + most - 1) / most;
        }

        int rowPart(int r) {
            return at(parts, r);
        }

        int partsLaid() {
            return partsLaid;
        }

        int partRows(int p) {
            return at(sizes, p);
        }

        int partStart(int p) {
            return at(starts, at(startRows, p));
        }

        int partEnd(int p) {
            // the first row is sewn forwards, so the last one of an odd number of rows is, too
            boolean forwards = at(sizes, p) % 2 == 1;
            return at(forwards ? ends : starts, at(endRows, p));
        }

        /** Returns the hidden way from a part to the following one, NONE for the last part. */
        int hiddenWay(Cloth cloth, int p) {
            if (p < 0 || p >= partsLaid - 1) {
                return NONE;
            }
            wave.spread(cloth, partEnd(p));
            return wave.stepsTo(partStart(p + 1));
        }

        /** Returns a figure, numbered as in the document: rows, parts, stitches, travel. */
        int figure(Cloth cloth, int what) {
            switch (what) {
                case 0:
                    return rowsLaid;
                case 1:
                    return partsLaid;
                case 2:
                    return stitches();
                default:
                    return travel(cloth);
            }
        }

        private int stitches() {
            int sum = 0;
            for (int r = 0; r < rowsLaid; r++) {
                sum += rowStitches(r);
            }
            return sum;
        }

        private int travel(Cloth cloth) {
            int sum = 0;
            for (int p = 0; p < partsLaid - 1; p++) {
                sum += hiddenWay(cloth, p);
            }
            return sum;
        }

        /** Marks the cells that are covered when the rows are pulled. */
        void cover(Cloth cloth) {
            wipe(covered);
            for (int r = 0; r < rowsLaid; r++) {
                int from = Math.max(at(firsts, r) - cloth.pull(), 0);
                int to = Math.min(at(lasts, r) + cloth.pull(), lineLength(cloth) - 1);
                for (int position = from; position <= to; position++) {
                    int place = placeIn(at(lines, r), position);
                    if (within(place, 0, PLACES - 1)) {
                        covered[place] = true;
                    }
                }
            }
        }

        int coveredCells() {
            return countTrue(covered);
        }

        int coveredOf(Cloth cloth, int colour) {
            int n = 0;
            for (int place = 0; place < PLACES; place++) {
                n += covered[place] && cloth.colourAt(place) == colour ? 1 : 0;
            }
            return n;
        }

        private int placeIn(int line, int position) {
            return way == ALONG ? placeOf(position, line) : placeOf(line, position);
        }

        private int lineLength(Cloth cloth) {
            return way == ALONG ? cloth.width() : cloth.height();
        }

        private void findRows(Cloth cloth, FieldMap map, int f) {
            int lineCount = way == ALONG ? cloth.height() : cloth.width();
            rowsLaid = 0;
            for (int line = 0; line < lineCount; line++) {
                boolean inRow = false;
                for (int position = 0; position < lineLength(cloth); position++) {
                    int place = placeIn(line, position);
                    boolean inField = map.fieldAt(place) == f;
                    if (inField && !inRow) {
                        startRow(line, position, place);
                    }
                    if (inField) {
                        put(lasts, rowsLaid - 1, position);
                        put(ends, rowsLaid - 1, place);
                    }
                    inRow = inField;
                }
            }
        }

        private void startRow(int line, int position, int place) {
            put(lines, rowsLaid, line);
            put(firsts, rowsLaid, position);
            put(starts, rowsLaid, place);
            rowsLaid++;
        }

        private void joinRows() {
            partsLaid = 0;
            for (int r = 0; r < rowsLaid; r++) {
                int before = rowContinuedBy(r);
                int p = before == NONE ? partsLaid : at(parts, before);
                if (before == NONE) {
                    put(startRows, p, r);
                    put(sizes, p, 0);
                    partsLaid++;
                }
                put(parts, r, p);
                put(endRows, p, r);
                put(sizes, p, at(sizes, p) + 1);
            }
        }

        /** Returns the row that row r continues, NONE if there is none. */
        private int rowContinuedBy(int r) {
            int before = NONE;
            for (int other = 0; other < r; other++) {
                if (isNextTo(r, other)) {
                    if (before != NONE) {
                        return NONE;
                    }
                    before = other;
                }
            }
            for (int other = before + 1; before != NONE && other < rowsLaid; other++) {
                if (other != r && isNextTo(other, before)) {
                    return NONE;
                }
            }
            return before;
        }

        private boolean isNextTo(int r, int before) {
            return at(lines, r) == at(lines, before) + 1
                    && at(firsts, r) <= at(lasts, before) && at(lasts, r) >= at(firsts, before);
        }
    }

    /**
     * The order of sewing. Sewing one colour after the other by their ranks breaks no rule, so that an order with the
     * fewest changes has all fields of a colour together, and fields of one colour never touch: the order is one of
     * colours, and the smallest order begins with the smallest field whose colour may come next.
     */
    private static final class SewingOrder {

        private final int[] sequence = new int[MAX_ORDERED];
        private final boolean[] done = new boolean[COLOURS + 1];
        private int size;
        private int coloursSewn;

        void lay(Cloth cloth, FieldMap map) {
            wipe(done);
            size = 0;
            coloursSewn = 0;
            for (int i = 0; i < COLOURS; i++) {
                int colour = nextColour(cloth, map);
                if (colour > BARE && colour <= COLOURS) {
                    addFields(map, colour);
                    done[colour] = true;
                    coloursSewn++;
                }
            }
        }

        int changes() {
            return coloursSewn - 1;
        }

        int fieldAt(int k) {
            return k < size ? at(sequence, k) : NONE;
        }

        private int nextColour(Cloth cloth, FieldMap map) {
            for (int f = 0; f < map.size(); f++) {
                int colour = map.colourOf(f);
                if (!isSewn(colour) && !mustWait(cloth, colour)) {
                    return colour;
                }
            }
            return NONE;
        }

        private boolean isSewn(int colour) {
            return within(colour, 0, COLOURS) && done[colour];
        }

        private boolean mustWait(Cloth cloth, int colour) {
            for (int other = 1; other <= COLOURS; other++) {
                if (!isSewn(other) && cloth.rankOf(other) < cloth.rankOf(colour) && cloth.touch(other, colour)) {
                    return true;
                }
            }
            return false;
        }

        private void addFields(FieldMap map, int colour) {
            for (int f = 0; f < map.size(); f++) {
                if (map.colourOf(f) == colour) {
                    put(sequence, size, f);
                    size++;
                }
            }
        }
    }

    /** What has been seen of an unknown field. */
    private static final class Observations {

        private final int[] directions = new int[MAX_OBSERVATIONS];
        private final int[] whats = new int[MAX_OBSERVATIONS];
        private final int[] figures = new int[MAX_OBSERVATIONS];
        private int size;

        int size() {
            return size;
        }

        void add(int way, int what, int figure) {
            put(directions, size, way);
            put(whats, size, what);
            put(figures, size, figure);
            size = Math.min(size + 1, MAX_OBSERVATIONS);
        }

        void drop() {
            size = 0;
        }

        /** Tells whether all observations are right for a field. */
        boolean agree(Cloth cloth, FieldMap map, Sewing sewing, int f) {
            for (int i = 0; i < size; i++) {
                sewing.lay(cloth, map, f, at(directions, i));
                if (sewing.figure(cloth, at(whats, i)) != at(figures, i)) {
                    return false;
                }
            }
            return true;
        }
    }
}
