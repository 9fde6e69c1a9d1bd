import java.util.function.IntUnaryOperator;
import java.util.function.ToIntFunction;

/** Tests of each sentence of the promises 1 to 10: the object, the text, and changes. */
final class PromiseSentences extends ClothTests {
    private PromiseSentences() {
    }

    static void all(Sentences s) {
        s.test("Promise 1", "Creates a cloth of one bare cell,", PromiseSentences::newCloth);
        s.test("Promise 1", "with an empty text,", PromiseSentences::newText);
        s.test("Promise 1", "no observations", PromiseSentences::newObservations);
        s.test("Promise 1", "and no snapshots.", PromiseSentences::newSnapshots);
        s.test("Promise 2", "Appends a character to the text.", PromiseSentences::typeAppends);
        s.test("Promise 2", "`letter`: 0 to 255", PromiseSentences::typeLetters);
        s.test("Promise 2", "Returns the number of characters then;", PromiseSentences::typeReturns);
        s.test("Promise 2", "BAD if letter is out of range;", PromiseSentences::typeBad);
        s.test("Promise 2", "FULL if there are 120 characters.", PromiseSentences::typeFull);
        s.test("Promise 3", "Empties the text.", PromiseSentences::clearEmpties);
        s.test("Promise 3", "Returns how many characters it had.", PromiseSentences::clearReturns);
        s.test("Promise 4", "Replaces the cloth, with colours, directions, ranks, stitch length and pull, by that of the "
                + "text,", PromiseSentences::tellsReplaces);
        s.test("Promise 4", "and empties the text.", PromiseSentences::tellsEmpties);
        s.test("Promise 4", "Observations and snapshots stay.", PromiseSentences::tellsStay);
        s.test("Promise 4", "Returns the number of items;", PromiseSentences::tellsReturns);
        s.test("Promise 4", "-10 - p if the text has the fault p", PromiseSentences::tellsFault);
        s.test("Promise 4", "(nothing changes, and the text stays).", PromiseSentences::tellsRefused);
        s.test("Promise 5", "Gives all cells of a rectangle a colour.", PromiseSentences::paintsAll);
        s.test("Promise 5", "- `x`: first column - `y`: first row", PromiseSentences::paintsFirst);
        s.test("Promise 5", "- `x2`: last column, at least x", PromiseSentences::paintsLastColumn);
        s.test("Promise 5", "- `y2`: last row, at least y", PromiseSentences::paintsLastRow);
        s.test("Promise 5", "`colour`: 0 to 3", PromiseSentences::paintsColour);
        s.test("Promise 5", "Returns how many cells had another colour;", PromiseSentences::paintsReturns);
        s.test("Promise 5", "BAD if an argument is out of range;", PromiseSentences::paintsBad);
        s.test("Promise 5", "STATE if none had.", PromiseSentences::paintsState);
        settings(s);
        s.test("Promise 10", "Undoes the latest change that can be undone.", PromiseSentences::undoLatest);
        s.test("Promise 10", "The text of the cloth that was read by tells() does not come back.",
                PromiseSentences::undoText);
        s.test("Promise 10", "Returns how many changes can still be undone;", PromiseSentences::undoReturns);
        s.test("Promise 10", "STATE if none can.", PromiseSentences::undoState);
    }

    private static void settings(Sentences s) {
        s.test("Promise 6", "Sets the direction of a colour.", PromiseSentences::waysSets);
        s.test("Promise 6", "- `colour`: 1 to 3 - `way`: 0: along; 1: across", PromiseSentences::waysRange);
        s.test("Promise 6", "Returns the direction before;", PromiseSentences::waysReturns);
        s.test("Promise 6", "BAD if an argument is out of range;", PromiseSentences::waysBad);
        s.test("Promise 6", "STATE if it is that one already.", PromiseSentences::waysState);
        s.test("Promise 7", "Sets the rank of a colour.", PromiseSentences::ranksSets);
        s.test("Promise 7", "- `colour`: 1 to 3 - `rank`: 0 to 9", PromiseSentences::ranksRange);
        s.test("Promise 7", "Returns the rank before;", PromiseSentences::ranksReturns);
        s.test("Promise 7", "BAD if an argument is out of range;", PromiseSentences::ranksBad);
        s.test("Promise 7", "STATE if it is that one already.", PromiseSentences::ranksState);
        s.test("Promise 8", "Sets the greatest stitch length.", PromiseSentences::mostsSets);
        s.test("Promise 8", "`n`: 1 to 5", PromiseSentences::mostsRange);
        s.test("Promise 8", "Returns the length before;", PromiseSentences::mostsReturns);
        s.test("Promise 8", "BAD if n is out of range;", PromiseSentences::mostsBad);
        s.test("Promise 8", "STATE if it is that one already.", PromiseSentences::mostsState);
        s.test("Promise 9", "Sets the pull.", PromiseSentences::pullsSets);
        s.test("Promise 9", "`n`: 0 to 2", PromiseSentences::pullsRange);
        s.test("Promise 9", "Returns the pull before;", PromiseSentences::pullsReturns);
        s.test("Promise 9", "BAD if n is out of range;", PromiseSentences::pullsBad);
        s.test("Promise 9", "STATE if it is that one already.", PromiseSentences::pullsState);
    }

    // ---- 1

    private static void newCloth() {
        SewnFields x = new SewnFields();
        dueEach("count", x::count, BAD, 1, 1, 0, 3, 0, 0, 0, 0, 0);
        Check.due("cell(0, 0, 0)", x.cell(0, 0, 0), 0);
        Check.due("cell(0, 0, 1)", x.cell(0, 0, 1), NONE);
        Check.due("field(0, 0)", x.field(0, 0), BAD);
        // two objects have nothing in common
        dueAlike("a new object beside another one", () -> {
            SewnFields first = new SewnFields();
            SewnFields other = new SewnFields();
            other.paints(0, 0, 0, 0, 1);
            other.ways(1, 1);
            other.type('r');
            other.sees(0, 0, 0);
            other.keep(0);
            other.keep(1);
            return first;
        }, SewnFields::new);
    }

    private static void newText() {
        Check.due("count(7)", new SewnFields().count(7), 0);
        Check.due("clear()", new SewnFields().clear(), 0);
        Check.due("tells()", new SewnFields().tells(), -10);
        Check.due("type(0)", new SewnFields().type(0), 1);
    }

    private static void newObservations() {
        Check.due("count(6)", new SewnFields().count(6), 0);
        Check.due("forget()", new SewnFields().forget(), 0);
        Check.due("sees(0, 0, 0)", new SewnFields().sees(0, 0, 0), 1);
        Check.due("which(0)", cloth("row 12;").which(0), 2);
    }

    private static void newSnapshots() {
        SewnFields x = new SewnFields();
        Check.due("back(0)", x.back(0), STATE);
        Check.due("back(1)", x.back(1), STATE);
        x.paints(0, 0, 0, 0, 1);
        Check.due("back(0)", x.back(0), STATE);
        Check.due("cell(0, 0, 0)", x.cell(0, 0, 0), 1);
    }

    // ---- 2

    private static void typeAppends() {
        SewnFields x = new SewnFields();
        for (char letter : "row 12;row 21;".toCharArray()) {
            x.type(letter);
        }
        Check.due("tells()", x.tells(), 2);
        dueCells(x, "/12/21");
        // behind a text that was refused
        types(x, "row");
        Check.due("tells()", x.tells(), -13);
        types(x, " 3;");
        Check.due("tells()", x.tells(), 1);
        dueCells(x, "/3");
    }

    private static void typeLetters() {
        for (int letter = 0; letter <= 255; letter++) {
            Check.due("type(" + letter + ")", new SewnFields().type(letter), 1);
        }
        // the letters are told from one another, also in their eighth bit
        for (int letter = 0; letter <= 255; letter++) {
            SewnFields x = new SewnFields();
            x.type(letter);
            types(x, "row 1;");
            Check.due("tells() behind " + letter, x.tells(), letter == ' ' ? 1 : -10);
        }
    }

    private static void typeReturns() {
        SewnFields x = new SewnFields();
        for (int n = 1; n <= 120; n++) {
            Check.due("type()", x.type(n == 60 ? 0 : 255), n);
            Check.due("count(7)", x.count(7), n);
        }
        x.clear();
        Check.due("type()", x.type(' '), 1);
    }

    private static void typeBad() {
        SewnFields x = new SewnFields();
        dueBad("type()", x::type, 0, 255);
        Check.due("type(256 + 'a')", x.type(256 + 'a'), BAD);
        Check.due("type('a' - 256)", x.type('a' - 256), BAD);
        Check.due("type(65536 + 'a')", x.type(65536 + 'a'), BAD);
        Check.due("count(7)", x.count(7), 0);
        Check.due("type(255)", x.type(255), 1);
        Check.due("type(0)", x.type(0), 2);
    }

    private static void typeFull() {
        SewnFields x = typed(" ".repeat(119));
        Check.due("type(), the 120th", x.type(' '), 120);
        for (int letter = 0; letter <= 255; letter += 51) {
            Check.due("type(), the 121st", x.type(letter), FULL);
        }
        Check.due("count(7)", x.count(7), 120);
        Check.due("clear()", x.clear(), 120);
        Check.due("type()", x.type(' '), 1);
    }

    // ---- 3

    private static void clearEmpties() {
        SewnFields x = typed("row 1;");
        x.clear();
        Check.due("count(7)", x.count(7), 0);
        Check.due("tells()", x.tells(), -10);
        types(x, "row 2;");
        Check.due("tells()", x.tells(), 1);
        dueCells(x, "/2");
        // and nothing else
        x.sees(0, 0, 1);
        x.keep(0);
        types(x, "row");
        x.clear();
        dueEach("count", x::count, BAD, 1, 1, 1, 3, 0, 1, 1, 0, 1);
        Check.due("back(0)", x.back(0), 1);
    }

    private static void clearReturns() {
        SewnFields x = new SewnFields();
        for (int n : new int[] {0, 1, 2, 119, 120, 0}) {
            types(x, "x".repeat(n));
            Check.due("clear() of " + n, x.clear(), n);
        }
        Check.due("clear() again", x.clear(), 0);
        SewnFields full = typed(" ".repeat(121));
        Check.due("clear() after one too many", full.clear(), 120);
    }

    // ---- 4

    private static void tellsReplaces() {
        SewnFields x = cloth("row 1111;row 1111;row 1111;way 1 1;way 2 1;rank 1 8;rank 3 7;most 5;pull 2;");
        types(x, "row 02;row 33;way 3 1;rank 2 6;most 1;pull 1;");
        Check.due("tells()", x.tells(), 6);
        dueCells(x, "/02/33");
        Check.due("count(0)", x.count(0), 2);
        Check.due("count(1)", x.count(1), 2);
        Check.due("count(2)", x.count(2), 2);
        Check.same("directions, ranks, length and pull", settings(x), " 11 -2,-2 -2,6 1,-2");
        // no cell of a larger cloth before is left over
        SewnFields small = cloth("row 11111111;".repeat(6));
        types(small, "row 0;");
        small.tells();
        Check.due("count(5)", small.count(5), 0);
        types(small, "row 1;");
        small.tells();
        Check.due("field(0, 1)", small.field(0, 1), 1);
        types(small, "row 10;row 00;");
        small.tells();
        Check.due("field(0, 1)", small.field(0, 1), 1);
    }

    private static void tellsEmpties() {
        SewnFields x = typed("row 1;");
        x.tells();
        Check.due("count(7)", x.count(7), 0);
        Check.due("tells()", x.tells(), -10);
        Check.due("clear()", x.clear(), 0);
        SewnFields full = typed("row 1;" + " ".repeat(114));
        full.tells();
        Check.due("type()", full.type('r'), 1);
    }

    private static void tellsStay() {
        SewnFields x = cloth("row 12;way 1 1;");
        x.sees(0, 0, 1);
        x.sees(0, 0, 2);
        x.keep(0);
        x.paints(0, 0, 0, 0, 2);
        x.keep(1);
        types(x, "row 1;row 1;row 2;");
        x.tells();
        Check.due("count(6)", x.count(6), 2);
        Check.due("which(0)", x.which(0), 0);
        Check.due("forget()", x.forget(), 2);
        Check.due("back(1)", x.back(1), 1);
        dueCells(x, "/22");
        Check.due("back(0)", x.back(0), 2);
        dueCells(x, "/12");
        Check.due("ways(1, 0)", x.ways(1, 0), 1);
    }

    private static void tellsReturns() {
        told("row 1;", 1);
        told("row 1;row 1;", 2);
        told("row 1;row 1;row 1;row 1;row 1;row 1;", 6);
        told("way 1 1;way 1 1;row 1;way 1 1;", 4);
        told("row1;most1;most1;pull0;rank1 0;", 5);
        // as many items as 120 characters hold
        told("row0;" + "most1;".repeat(19), 20);
        told("most1;".repeat(19) + "row 0;", 20);
    }

    private static void tellsFault() {
        fault("", 0);
        fault("?", 0);
        fault(" ?", 1);
        fault(" ".repeat(119) + ";", 119);
        fault("row 1;" + " ".repeat(113) + "r", 119);
        fault(" ".repeat(120), 120);
        // every place of a fault
        for (int p = 0; p <= 119; p++) {
            fault(" ".repeat(p) + "1".repeat(120 - p), p);
        }
    }

    private static void tellsRefused() {
        for (String text : new String[] {"", "row 3;row 33;", "row 3;most 6;", "most 5;way 1 1;", "row 3;way 1 1;rank"}) {
            dueAlike("the object after tells() of " + text, () -> {
                SewnFields x = kept(text);
                Check.due("tells() is refused", x.tells() <= -10 ? 1 : 0, 1);
                return x;
            }, () -> kept(text));
        }
        SewnFields x = typed("row 3");
        Check.due("tells()", x.tells(), -15);
        Check.due("tells() again", x.tells(), -15);
        Check.due("type(59): the text stays", x.type(';'), 6);
        Check.due("tells()", x.tells(), 1);
    }

    private static SewnFields kept(String text) {
        SewnFields x = cloth("row 112;row 302;way 2 1;rank 3 4;most 2;pull 1;");
        x.keep(1);
        x.sees(0, 0, 1);
        x.paints(0, 0, 0, 0, 2);
        types(x, text);
        return x;
    }

    // ---- 5

    private static void paintsAll() {
        SewnFields x = cloth("row 0000;row 0000;row 0000;row 0000;");
        x.paints(1, 1, 2, 2, 3);
        dueCells(x, "/0000/0330/0330/0000");
        x.paints(0, 2, 3, 3, 1);
        dueCells(x, "/0000/0330/1111/1111");
        x.paints(2, 0, 2, 3, 0);
        dueCells(x, "/0000/0300/1101/1101");
        // the largest rectangle and the smallest one
        SewnFields largest = cloth("row 00000000;".repeat(6));
        Check.due("paints(0, 0, 7, 5, 2)", largest.paints(0, 0, 7, 5, 2), 48);
        Check.due("field(0, 1)", largest.field(0, 1), 48);
        Check.due("paints(7, 5, 7, 5, 0)", largest.paints(7, 5, 7, 5, 0), 1);
        Check.due("field(0, 1)", largest.field(0, 1), 47);
        Check.due("paints(0, 0, 0, 0, 1)", largest.paints(0, 0, 0, 0, 1), 1);
        Check.due("field(1, 1)", largest.field(1, 1), 46);
    }

    private static void paintsFirst() {
        SewnFields x = cloth("row 000;row 000;row 000;");
        x.paints(1, 2, 2, 2, 1);
        dueCells(x, "/000/000/011");
        x.undo();
        x.paints(2, 1, 2, 2, 1);
        dueCells(x, "/000/001/001");
        dueBad("paints(x, 0, 2, 2, 1)", n -> x.paints(n, 0, 2, 2, 1), 0, 2);
        dueBad("paints(0, y, 2, 2, 1)", n -> x.paints(0, n, 2, 2, 1), 0, 2);
    }

    private static void paintsLastColumn() {
        SewnFields x = cloth("row 0000;row 0000;");
        Check.due("paints(2, 0, 2, 0, 1)", x.paints(2, 0, 2, 0, 1), 1);
        Check.due("paints(2, 0, 1, 0, 2)", x.paints(2, 0, 1, 0, 2), BAD);
        Check.due("paints(1, 0, 0, 1, 2)", x.paints(1, 0, 0, 1, 2), BAD);
        Check.due("paints(3, 1, 0, 1, 2)", x.paints(3, 1, 0, 1, 2), BAD);
        Check.due("paints(2, 1, 3, 1, 3)", x.paints(2, 1, 3, 1, 3), 2);
        dueBad("paints(3, 0, x2, 1, 1)", n -> x.paints(3, 0, n, 1, 1), 3, 3);
        dueCells(x, "/0010/0033");
    }

    private static void paintsLastRow() {
        SewnFields x = cloth("row 00;row 00;row 00;");
        Check.due("paints(0, 1, 0, 1, 1)", x.paints(0, 1, 0, 1, 1), 1);
        Check.due("paints(0, 1, 0, 0, 2)", x.paints(0, 1, 0, 0, 2), BAD);
        Check.due("paints(0, 2, 1, 1, 2)", x.paints(0, 2, 1, 1, 2), BAD);
        Check.due("paints(1, 1, 1, 2, 3)", x.paints(1, 1, 1, 2, 3), 2);
        dueBad("paints(0, 2, 1, y2, 1)", n -> x.paints(0, 2, 1, n, 1), 2, 2);
        dueCells(x, "/00/13/03");
    }

    private static void paintsColour() {
        SewnFields x = new SewnFields();
        for (int colour : new int[] {3, 0, 1, 2, 0}) {
            Check.due("paints()", x.paints(0, 0, 0, 0, colour), 1);
            Check.due("cell(0, 0, 0)", x.cell(0, 0, 0), colour);
        }
        dueBad("paints(0, 0, 0, 0, colour)", n -> x.paints(0, 0, 0, 0, n), 0, 3);
    }

    private static void paintsReturns() {
        SewnFields x = cloth("row 0123;row 0123;");
        Check.due("paints(0, 0, 3, 1, 1): 2 of 8 are 1", x.paints(0, 0, 3, 1, 1), 6);
        x.undo();
        Check.due("paints(0, 0, 3, 1, 0): 2 of 8 are bare", x.paints(0, 0, 3, 1, 0), 6);
        x.undo();
        Check.due("paints(1, 0, 2, 0, 2): one of two", x.paints(1, 0, 2, 0, 2), 1);
        Check.due("paints(0, 1, 3, 1, 2)", x.paints(0, 1, 3, 1, 2), 3);
        Check.due("paints(3, 0, 3, 0, 0)", x.paints(3, 0, 3, 0, 0), 1);
    }

    private static void paintsBad() {
        SewnFields x = cloth("row 012;row 120;");
        dueBad("paints(x, ..)", n -> x.paints(n, 0, n, 0, 3), 0, 2);
        dueBad("paints(.., y, ..)", n -> x.paints(0, n, 0, n, 3), 0, 1);
        dueBad("paints(.., x2, ..)", n -> x.paints(1, 0, n, 1, 3), 1, 2);
        dueBad("paints(.., y2, ..)", n -> x.paints(0, 1, 2, n, 3), 1, 1);
        dueBad("paints(.., colour)", n -> x.paints(0, 0, 2, 1, n), 0, 3);
        Check.due("paints(3, 0, 3, 0, 3)", x.paints(3, 0, 3, 0, 3), BAD);
        Check.due("paints(0, 2, 0, 2, 3)", x.paints(0, 2, 0, 2, 3), BAD);
        dueCells(x, "/012/120");
        Check.due("count(8)", x.count(8), 1);
    }

    private static void paintsState() {
        SewnFields x = cloth("row 1122;row 1102;");
        Check.due("paints(0, 0, 1, 1, 1)", x.paints(0, 0, 1, 1, 1), STATE);
        Check.due("paints(3, 0, 3, 1, 2)", x.paints(3, 0, 3, 1, 2), STATE);
        Check.due("paints(2, 1, 2, 1, 0)", x.paints(2, 1, 2, 1, 0), STATE);
        Check.due("count(8)", x.count(8), 1);
        Check.due("paints(0, 0, 2, 0, 1): one had", x.paints(0, 0, 2, 0, 1), 1);
        Check.due("paints(0, 0, 2, 0, 1): none has", x.paints(0, 0, 2, 0, 1), STATE);
        Check.due("paints() of a new object", new SewnFields().paints(0, 0, 0, 0, 0), STATE);
    }

    // ---- 6 to 9: what one setting has in common with the others

    /** Sets each value in the place of each other one: the value before is due, or STATE if it is the same. */
    private static void dueBefore(String call, IntUnaryOperator set, int low, int high) {
        set.applyAsInt(low);
        int before = low;
        for (int from = low; from <= high; from++) {
            for (int to = low; to <= high; to++) {
                set.applyAsInt(from);
                before = from;
                Check.due(call + " from " + before + " to " + to, set.applyAsInt(to), to == before ? STATE : before);
                Check.due(call + " to " + to + " again", set.applyAsInt(to), STATE);
            }
        }
    }

    /** Calls with numbers out of range are refused, and change neither the value nor what can be undone. */
    private static void dueRefused(SewnFields x, String call, ToIntFunction<Integer> set, int low, int high) {
        int changes = x.count(8);
        String before = look(x);
        dueBad(call, set, low, high);
        Check.due("count(8) after refused calls of " + call, x.count(8), changes);
        Check.same("the cloth after refused calls of " + call, look(x), before);
    }

    private static void waysSets() {
        SewnFields x = cloth("row 0102030;row 0000000;pull 1;");
        x.ways(2, 1);
        dueEach("field(f, 4)", f -> x.field(f, 4), BAD, 3, 2, 3);
        x.ways(1, 1);
        dueEach("field(f, 4)", f -> x.field(f, 4), BAD, 2, 2, 3);
        x.ways(2, 0);
        dueEach("field(f, 4)", f -> x.field(f, 4), BAD, 2, 3, 3);
        // of all fields of the colour, also of those that come later
        SewnFields y = cloth("row 10100;row 00000;pull 1;");
        y.ways(1, 1);
        dueEach("field(f, 4)", f -> y.field(f, 4), BAD, 2, 2);
        y.paints(4, 0, 4, 0, 1);
        dueEach("field(f, 4)", f -> y.field(f, 4), BAD, 2, 2, 2);
    }

    private static void waysRange() {
        for (int colour = 1; colour <= 3; colour++) {
            SewnFields x = new SewnFields();
            Check.due("ways(" + colour + ", 1)", x.ways(colour, 1), 0);
            Check.due("ways(" + colour + ", 0)", x.ways(colour, 0), 1);
            Check.due("ways(" + colour + ", 2)", x.ways(colour, 2), BAD);
            Check.due("ways(" + colour + ", -1)", x.ways(colour, -1), BAD);
        }
        Check.due("ways(0, 1)", new SewnFields().ways(0, 1), BAD);
        Check.due("ways(4, 1)", new SewnFields().ways(4, 1), BAD);
    }

    private static void waysReturns() {
        for (int colour = 1; colour <= 3; colour++) {
            int c = colour;
            SewnFields x = cloth("row 0;way 1 1;way 2 1;way 3 1;");
            Check.due("ways(" + c + ", 0)", x.ways(c, 0), 1);
            Check.due("ways(" + c + ", 1)", x.ways(c, 1), 0);
            dueBefore("ways(" + c + ", way)", n -> x.ways(c, n), 0, 1);
        }
    }

    private static void waysBad() {
        SewnFields x = cloth("row 0102030;row 0000000;pull 1;way 3 1;");
        dueRefused(x, "ways(colour, 0)", n -> x.ways(n, 0), 1, 3);
        dueRefused(x, "ways(colour, 1)", n -> x.ways(n, 1), 1, 3);
        dueRefused(x, "ways(1, way)", n -> x.ways(1, n), 0, 1);
        dueRefused(x, "ways(3, way)", n -> x.ways(3, n), 0, 1);
    }

    private static void waysState() {
        SewnFields x = cloth("row 1;way 2 1;");
        Check.due("ways(1, 0)", x.ways(1, 0), STATE);
        Check.due("ways(2, 1)", x.ways(2, 1), STATE);
        Check.due("ways(3, 0)", x.ways(3, 0), STATE);
        Check.due("count(8)", x.count(8), 1);
        x.ways(2, 0);
        Check.due("ways(2, 0)", x.ways(2, 0), STATE);
        x.undo();
        Check.due("ways(2, 1)", x.ways(2, 1), STATE);
    }

    private static void ranksSets() {
        SewnFields x = cloth("row 12321;");
        x.ranks(1, 1);
        dueEach("order(k)", x::order, NONE, 1, 3, 0, 4, 2);
        x.ranks(2, 2);
        dueEach("order(k)", x::order, NONE, 0, 4, 2, 1, 3);
        x.ranks(3, 9);
        dueEach("order(k)", x::order, NONE, 0, 4, 1, 3, 2);
        x.ranks(1, 9);
        dueEach("order(k)", x::order, NONE, 1, 3, 0, 4, 2);
    }

    private static void ranksRange() {
        for (int colour = 1; colour <= 3; colour++) {
            SewnFields x = new SewnFields();
            for (int rank = 9; rank >= 0; rank--) {
                Check.due("ranks(" + colour + ", " + rank + ")", x.ranks(colour, rank), rank == 9 ? 0 : rank + 1);
            }
            Check.due("ranks(" + colour + ", 10)", x.ranks(colour, 10), BAD);
            Check.due("ranks(" + colour + ", -1)", x.ranks(colour, -1), BAD);
        }
        Check.due("ranks(0, 1)", new SewnFields().ranks(0, 1), BAD);
        Check.due("ranks(4, 1)", new SewnFields().ranks(4, 1), BAD);
    }

    private static void ranksReturns() {
        for (int colour = 1; colour <= 3; colour++) {
            int c = colour;
            Check.due("ranks() of what was told", cloth("row 0;rank " + c + " 7;").ranks(c, 9), 7);
            SewnFields x = new SewnFields();
            dueBefore("ranks(" + c + ", rank)", n -> x.ranks(c, n), 0, 9);
        }
    }

    private static void ranksBad() {
        SewnFields x = cloth("row 12321;rank 1 1;rank 2 2;rank 3 3;");
        dueRefused(x, "ranks(colour, 0)", n -> x.ranks(n, 0), 1, 3);
        dueRefused(x, "ranks(colour, 9)", n -> x.ranks(n, 9), 1, 3);
        dueRefused(x, "ranks(1, rank)", n -> x.ranks(1, n), 0, 9);
        dueRefused(x, "ranks(3, rank)", n -> x.ranks(3, n), 0, 9);
    }

    private static void ranksState() {
        SewnFields x = cloth("row 1;rank 2 9;");
        Check.due("ranks(1, 0)", x.ranks(1, 0), STATE);
        Check.due("ranks(2, 9)", x.ranks(2, 9), STATE);
        Check.due("ranks(3, 0)", x.ranks(3, 0), STATE);
        Check.due("count(8)", x.count(8), 1);
        x.ranks(2, 8);
        Check.due("ranks(2, 8)", x.ranks(2, 8), STATE);
        x.undo();
        Check.due("ranks(2, 9)", x.ranks(2, 9), STATE);
    }

    private static void mostsSets() {
        SewnFields x = cloth("row 11111111;");
        int[] stitches = {8, 4, 3, 2, 2};
        for (int n = 1; n <= 5; n++) {
            x.mosts(n);
            Check.due("count(3)", x.count(3), n);
            Check.due("sewn(0, 0, 2) by " + n, x.sewn(0, 0, 2), stitches[n - 1]);
            Check.due("row(0, 0, 0, 2) by " + n, x.row(0, 0, 0, 2), stitches[n - 1]);
        }
    }

    private static void mostsRange() {
        SewnFields x = new SewnFields();
        Check.due("mosts(1)", x.mosts(1), 3);
        Check.due("mosts(0)", x.mosts(0), BAD);
        Check.due("mosts(5)", x.mosts(5), 1);
        Check.due("mosts(6)", x.mosts(6), BAD);
    }

    private static void mostsReturns() {
        SewnFields x = new SewnFields();
        Check.due("mosts(2) of a new object", x.mosts(2), 3);
        Check.due("mosts(2) of what was told", cloth("row 0;most 5;").mosts(2), 5);
        dueBefore("mosts()", x::mosts, 1, 5);
    }

    private static void mostsBad() {
        SewnFields x = cloth("row 11111111;most 2;");
        dueRefused(x, "mosts()", x::mosts, 1, 5);
        Check.due("sewn(0, 0, 2)", x.sewn(0, 0, 2), 4);
    }

    private static void mostsState() {
        SewnFields x = new SewnFields();
        Check.due("mosts(3)", x.mosts(3), STATE);
        x.mosts(5);
        Check.due("mosts(5)", x.mosts(5), STATE);
        Check.due("count(8)", x.count(8), 1);
        x.undo();
        Check.due("mosts(3)", x.mosts(3), STATE);
    }

    private static void pullsSets() {
        SewnFields x = cloth("row 0001000;");
        for (int n : new int[] {1, 2, 0, 2, 1, 0}) {
            x.pulls(n);
            Check.due("count(4)", x.count(4), n);
            Check.due("field(0, 4)", x.field(0, 4), 1 + 2 * n);
        }
    }

    private static void pullsRange() {
        SewnFields x = new SewnFields();
        Check.due("pulls(2)", x.pulls(2), 0);
        Check.due("pulls(3)", x.pulls(3), BAD);
        Check.due("pulls(0)", x.pulls(0), 2);
        Check.due("pulls(-1)", x.pulls(-1), BAD);
    }

    private static void pullsReturns() {
        SewnFields x = new SewnFields();
        Check.due("pulls(1) of a new object", x.pulls(1), 0);
        Check.due("pulls(1) of what was told", cloth("row 0;pull 2;").pulls(1), 2);
        dueBefore("pulls()", x::pulls, 0, 2);
    }

    private static void pullsBad() {
        SewnFields x = cloth("row 0001000;pull 1;");
        dueRefused(x, "pulls()", x::pulls, 0, 2);
        Check.due("field(0, 4)", x.field(0, 4), 3);
    }

    private static void pullsState() {
        SewnFields x = new SewnFields();
        Check.due("pulls(0)", x.pulls(0), STATE);
        x.pulls(2);
        Check.due("pulls(2)", x.pulls(2), STATE);
        Check.due("count(8)", x.count(8), 1);
        x.undo();
        Check.due("pulls(0)", x.pulls(0), STATE);
    }

    // ---- 10

    private static void undoLatest() {
        SewnFields x = cloth("row 12;row 12;");
        String[] looks = new String[6];
        looks[0] = look(x);
        x.paints(0, 0, 1, 0, 3);
        looks[1] = look(x);
        x.pulls(1);
        looks[2] = look(x);
        x.ways(3, 1);
        looks[3] = look(x);
        x.ranks(1, 3);
        looks[4] = look(x);
        types(x, "row 333;");
        x.tells();
        looks[5] = look(x);
        for (int i = 5; i >= 0; i--) {
            Check.same("the cloth after " + i + " changes", look(x), looks[i]);
            Check.due("undo()", x.undo(), i);
        }
        Check.due("fields of the cloth at first", x.count(2), 0);
        // neither observations nor snapshots nor the text are undone
        SewnFields y = cloth("row 1;");
        y.sees(0, 0, 1);
        y.keep(0);
        types(y, "row");
        y.undo();
        Check.due("count(6)", y.count(6), 1);
        Check.due("count(7)", y.count(7), 3);
        Check.due("back(0)", y.back(0), 1);
    }

    private static void undoText() {
        SewnFields x = cloth("row 12;");
        x.undo();
        Check.due("count(7)", x.count(7), 0);
        Check.due("tells()", x.tells(), -10);
        // a text that was begun since then stays as it is
        types(x, "row 3;");
        x.tells();
        types(x, "row 2");
        x.undo();
        Check.due("count(7)", x.count(7), 5);
        x.type(';');
        Check.due("tells()", x.tells(), 1);
        dueCells(x, "/2");
    }

    private static void undoReturns() {
        for (int changes = 1; changes <= 9; changes++) {
            SewnFields x = new SewnFields();
            for (int i = 1; i <= changes; i++) {
                x.ranks(2, i);
            }
            for (int left = Math.min(changes, 6) - 1; left >= 0; left--) {
                Check.due("undo() after " + changes + " changes", x.undo(), left);
                Check.due("count(8)", x.count(8), left);
            }
        }
    }

    private static void undoState() {
        SewnFields x = new SewnFields();
        Check.due("undo() of a new object", x.undo(), STATE);
        x.mosts(1);
        Check.due("undo()", x.undo(), 0);
        Check.due("undo()", x.undo(), STATE);
        Check.due("undo() again", x.undo(), STATE);
        Check.due("count(3)", x.count(3), 3);
        // an undone change cannot be undone, and a snapshot that was restored leaves nothing to undo
        x.keep(0);
        x.mosts(1);
        x.back(0);
        Check.due("undo()", x.undo(), STATE);
        Check.due("count(3)", x.count(3), 3);
    }
}
