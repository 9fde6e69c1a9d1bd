import java.util.stream.IntStream;

/** Tests of each sentence of the promises 11 to 22: fields, observations, snapshots and counts. */
final class AnswerSentences extends ClothTests {
    private static final String HOOK = "row 1111;row 0101;row 0110;";

    private AnswerSentences() {
    }

    static void all(Sentences s) {
        s.plain("Promise 11", "Returns a property of a cell.");
        s.test("Promise 11", "- `x`: its column - `y`: its row", AnswerSentences::cellPlace);
        s.test("Promise 11", "`what`: 0: its colour; 1: its field, NONE if it is bare", AnswerSentences::cellWhat);
        s.test("Promise 11", "Returns the property; BAD if there is no such cell,", AnswerSentences::cellNoCell);
        s.test("Promise 11", "or what is out of range.", AnswerSentences::cellBad);
        field(s);
        s.plain("Promise 13", "Returns a figure of a field for a direction.");
        s.test("Promise 13", "`f`: number of the field", AnswerSentences::sewnField);
        s.test("Promise 13", "`way`: 0: along; 1: across", AnswerSentences::sewnWay);
        s.test("Promise 13", "`what`: 0: the number of its rows; 1: of its parts; 2: of the stitches of all rows; "
                + "3: its travel", AnswerSentences::sewnWhat);
        s.test("Promise 13", "Returns the figure; BAD if an argument is out of range.", AnswerSentences::sewnBad);
        rowAndPart(s);
        s.plain("Promise 16", "Returns a part of the order of sewing.");
        s.test("Promise 16", "`k`: -1 for the number of changes, otherwise an index", AnswerSentences::orderK);
        s.plain("Promise 16", "Returns the number of changes, or the field;");
        s.test("Promise 16", "NONE if there are no fields,", AnswerSentences::orderOfNone);
        s.test("Promise 16", "or not so many;", AnswerSentences::orderBeyond);
        s.test("Promise 16", "BAD if k is less than -1;", AnswerSentences::orderBad);
        s.test("Promise 16", "FULL if there are more than 10 fields.", AnswerSentences::orderFull);
        observations(s);
        snapshots(s);
        s.plain("Promise 22", "Returns a count.");
        s.test("Promise 22", "`what`: 0: w; 1: h; 2: fields; 3: the greatest stitch length; 4: the pull; 5: cells that are "
                + "not bare; 6: observations; 7: characters of the text; 8: changes that can be undone",
                AnswerSentences::countWhat);
        s.test("Promise 22", "Returns the count; BAD if what is out of range.", AnswerSentences::countBad);
    }

    private static void field(Sentences s) {
        s.plain("Promise 12", "Returns a property of a field.");
        s.test("Promise 12", "`f`: number of the field", AnswerSentences::fieldNumber);
        s.test("Promise 12", "`what`: 0: its colour;", AnswerSentences::fieldColour);
        s.test("Promise 12", "1: the number of its cells;", AnswerSentences::fieldCells);
        s.test("Promise 12", "2: its smallest cell;", AnswerSentences::fieldSmallest);
        s.test("Promise 12", "3: its better direction;", AnswerSentences::fieldBetter);
        s.test("Promise 12", "4: the number of cells that it covers;", AnswerSentences::fieldCovers);
        s.test("Promise 12", "5: how many of these have another colour 1 to 3;", AnswerSentences::fieldOthers);
        s.test("Promise 12", "6: how many of these are bare;", AnswerSentences::fieldBare);
        s.test("Promise 12", "7: how many fields touch it", AnswerSentences::fieldTouching);
        s.test("Promise 12", "Returns the property; BAD if there is no such field,", AnswerSentences::fieldNoField);
        s.test("Promise 12", "or what is out of range.", AnswerSentences::fieldBad);
    }

    private static void rowAndPart(Sentences s) {
        s.plain("Promise 14", "Returns a property of a row of a field for a direction.");
        s.test("Promise 14", "- `f`: number of the field - `way`: 0: along; 1: across - `r`: number of the row",
                AnswerSentences::rowNumbers);
        s.test("Promise 14", "`what`: 0: its first cell; 1: the number of its cells; 2: of its stitches; 3: its part",
                AnswerSentences::rowWhat);
        s.test("Promise 14", "Returns the property; NONE if there are not so many rows;", AnswerSentences::rowBeyond);
        s.test("Promise 14", "BAD if there is no such field,", AnswerSentences::rowNoField);
        s.test("Promise 14", "r is negative,", AnswerSentences::rowNegative);
        s.test("Promise 14", "or way or what is out of range.", AnswerSentences::rowBad);
        s.plain("Promise 15", "Returns a property of a part of a field for a direction.");
        s.test("Promise 15", "- `f`: number of the field - `way`: 0: along; 1: across - `p`: number of the part",
                AnswerSentences::partNumbers);
        s.test("Promise 15", "`what`: 0: the number of its rows; 1: its first cell; 2: the cell at which it ends;",
                AnswerSentences::partWhat);
        s.test("Promise 15", "3: the hidden way to the following part, NONE for the last part",
                AnswerSentences::partHidden);
        s.test("Promise 15", "Returns the property; NONE if there are not so many parts;", AnswerSentences::partBeyond);
        s.test("Promise 15", "BAD if there is no such field,", AnswerSentences::partNoField);
        s.test("Promise 15", "p is negative,", AnswerSentences::partNegative);
        s.test("Promise 15", "or way or what is out of range.", AnswerSentences::partBad);
    }

    private static void observations(Sentences s) {
        s.test("Promise 17", "Adds an observation: an unknown field has, for a direction, a certain figure as of sewn().",
                AnswerSentences::seesAdds);
        s.test("Promise 17", "`way`: 0: along; 1: across", AnswerSentences::seesWay);
        s.test("Promise 17", "`what`: 0 to 3, as for sewn()", AnswerSentences::seesWhat);
        s.test("Promise 17", "`n`: the figure, 0 to 99", AnswerSentences::seesFigure);
        s.test("Promise 17", "Returns the number of observations then;", AnswerSentences::seesReturns);
        s.test("Promise 17", "BAD if an argument is out of range;", AnswerSentences::seesBad);
        s.test("Promise 17", "FULL if there are 6 observations.", AnswerSentences::seesFull);
        s.test("Promise 18", "Removes all observations.", AnswerSentences::forgetRemoves);
        s.test("Promise 18", "Returns how many there were.", AnswerSentences::forgetReturns);
        s.test("Promise 19", "Finds the fields of the present cloth for which all observations are right.",
                AnswerSentences::whichFinds);
        s.test("Promise 19", "`what`: 0: how many fields; 1: the smallest one", AnswerSentences::whichWhat);
        s.test("Promise 19", "Returns the answer (all fields without observations);", AnswerSentences::whichAll);
        s.test("Promise 19", "for 1, NONE if there is none;", AnswerSentences::whichNone);
        s.test("Promise 19", "BAD if what is out of range.", AnswerSentences::whichBad);
    }

    private static void snapshots(Sentences s) {
        s.test("Promise 20", "Saves the cloth, with colours, directions, ranks, stitch length and pull, as a snapshot.",
                AnswerSentences::keepSaves);
        s.test("Promise 20", "A snapshot that was there is replaced.", AnswerSentences::keepReplaces);
        s.test("Promise 20", "`image`: snapshot, 0 or 1", AnswerSentences::keepImage);
        s.test("Promise 20", "Returns the number of fields;", AnswerSentences::keepReturns);
        s.test("Promise 20", "BAD if image is out of range.", AnswerSentences::keepBad);
        s.test("Promise 21", "Restores a snapshot, which remains.", AnswerSentences::backRestores);
        s.test("Promise 21", "Nothing can be undone then.", AnswerSentences::backUndo);
        s.test("Promise 21", "`image`: snapshot, 0 or 1", AnswerSentences::backImage);
        s.test("Promise 21", "Returns the number of fields then;", AnswerSentences::backReturns);
        s.test("Promise 21", "BAD if image is out of range;", AnswerSentences::backBad);
        s.test("Promise 21", "STATE if it was never saved.", AnswerSentences::backState);
    }

    // ---- 11

    private static void cellPlace() {
        SewnFields x = cloth("row 123;row 010;");
        int[][] colours = {{1, 2, 3}, {0, 1, 0}};
        for (int y = 0; y <= 1; y++) {
            for (int column = 0; column <= 2; column++) {
                Check.due("cell(" + column + ", " + y + ", 0)", x.cell(column, y, 0), colours[y][column]);
            }
        }
        SewnFields largest = cloth("row 00000001;row 00000000;row 00000000;row 00000000;row 00000000;row 20000003;");
        Check.due("cell(7, 0, 0)", largest.cell(7, 0, 0), 1);
        Check.due("cell(0, 5, 0)", largest.cell(0, 5, 0), 2);
        Check.due("cell(7, 5, 0)", largest.cell(7, 5, 0), 3);
        Check.due("cell(0, 0, 0)", largest.cell(0, 0, 0), 0);
    }

    private static void cellWhat() {
        SewnFields x = cloth("row 3022;row 3311;");
        int[] colours = {3, 0, 2, 2, 3, 3, 1, 1};
        int[] fields = {0, NONE, 1, 1, 0, 0, 2, 2};
        for (int i = 0; i < 8; i++) {
            Check.due("the colour of cell " + i, x.cell(i % 4, i / 4, 0), colours[i]);
            Check.due("the field of cell " + i, x.cell(i % 4, i / 4, 1), fields[i]);
        }
        Check.due("the field of a new object's cell", new SewnFields().cell(0, 0, 1), NONE);
        Check.due("the last field", cloth(CHECKED).cell(7, 5, 1), 47);
        x.paints(0, 0, 0, 1, 0);
        Check.due("the field of a cell that was made bare", x.cell(0, 1, 1), NONE);
        Check.due("the field of the cell beside it", x.cell(1, 1, 1), 1);
    }

    private static void cellNoCell() {
        for (int w = 1; w <= 8; w++) {
            SewnFields x = cloth("row " + "1".repeat(w) + ";row " + "1".repeat(w) + ";");
            int last = w - 1;
            for (int what = 0; what <= 1; what++) {
                int asked = what;
                dueBad("cell(x, 0, what) of w = " + w, n -> x.cell(n, 0, asked), 0, last);
                dueBad("cell(0, y, what)", n -> x.cell(0, n, asked), 0, 1);
                Check.due("the last cell", x.cell(last, 1, what), 1 - what);
            }
        }
        Check.due("cell(8, 6, 0)", cloth(CHECKED).cell(8, 6, 0), BAD);
        Check.due("cell(8, 0, 0)", cloth(CHECKED).cell(8, 0, 0), BAD);
        Check.due("cell(0, 6, 0)", cloth(CHECKED).cell(0, 6, 0), BAD);
        Check.due("cell(-1, 1, 0)", cloth(CHECKED).cell(-1, 1, 0), BAD);
    }

    private static void cellBad() {
        SewnFields x = cloth("row 10;");
        dueBad("cell(0, 0, what)", n -> x.cell(0, 0, n), 0, 1);
        dueBad("cell(1, 0, what)", n -> x.cell(1, 0, n), 0, 1);
    }

    // ---- 12

    private static void fieldNumber() {
        SewnFields x = cloth(CHECKED);
        for (int f = 0; f <= 47; f++) {
            Check.due("field(" + f + ", 2)", x.field(f, 2), f);
            Check.due("field(" + f + ", 0)", x.field(f, 0), 1 + (f + f / 8) % 2);
        }
        Check.due("field(48, 0)", x.field(48, 0), BAD);
        Check.due("field(-1, 0)", x.field(-1, 0), BAD);
    }

    private static void fieldColour() {
        SewnFields x = cloth("row 30102;row 33102;");
        dueEach("field(f, 0)", f -> x.field(f, 0), BAD, 3, 1, 2);
        x.paints(1, 0, 1, 1, 2);
        dueEach("field(f, 0)", f -> x.field(f, 0), BAD, 3, 2, 1, 2);
    }

    private static void fieldCells() {
        SewnFields x = cloth("row 1220;row 1002;row 1112;");
        dueEach("field(f, 1)", f -> x.field(f, 1), BAD, 5, 2, 2);
        SewnFields all = cloth("row 33333333;".repeat(6));
        dueEach("field(f, 1)", f -> all.field(f, 1), BAD, 48);
        all.paints(7, 5, 7, 5, 0);
        dueEach("field(f, 1)", f -> all.field(f, 1), BAD, 47);
        all.paints(0, 0, 7, 4, 0);
        dueEach("field(f, 1)", f -> all.field(f, 1), BAD, 7);
    }

    private static void fieldSmallest() {
        SewnFields x = cloth("row 001;row 201;row 213;");
        dueEach("field(f, 2)", f -> x.field(f, 2), BAD, 2, 3, 7, 8);
        // the smallest one, which need be neither the first one of a column nor that of the lowest column
        SewnFields y = cloth("row 0011;row 0110;row 1100;");
        dueEach("field(f, 2)", f -> y.field(f, 2), BAD, 2);
        SewnFields last = cloth("row 00000000;row 00000000;row 00000000;row 00000000;row 00000000;row 00000001;");
        dueEach("field(f, 2)", f -> last.field(f, 2), BAD, 47);
    }

    private static void fieldBetter() {
        SewnFields x = cloth("row 11202;row 00203;row 10233;row 11000;");
        // a wide field, a high one, a cell, and two corners
        Check.due("fields", x.count(2), 5);
        dueEach("field(f, 3)", f -> x.field(f, 3), BAD, 0, 1, 0, 0, 0);
        // it follows the cloth and the stitch length
        SewnFields y = cloth("row 10;row 10;");
        Check.due("field(0, 3)", y.field(0, 3), 1);
        y.mosts(1);
        Check.due("field(0, 3) by stitches of 1", y.field(0, 3), 0);
        y.mosts(2);
        Check.due("field(0, 3) by stitches of 2", y.field(0, 3), 1);
        y.paints(1, 0, 1, 1, 1);
        Check.due("field(0, 3) of a square", y.field(0, 3), 0);
    }

    private static void fieldCovers() {
        SewnFields x = cloth("row 1000;row 0010;row 2200;row 0003;");
        dueEach("field(f, 4)", f -> x.field(f, 4), BAD, 1, 1, 2, 1);
        x.pulls(1);
        dueEach("field(f, 4)", f -> x.field(f, 4), BAD, 2, 3, 3, 2);
        x.pulls(2);
        dueEach("field(f, 4)", f -> x.field(f, 4), BAD, 3, 4, 4, 3);
        x.ways(1, 1);
        x.ways(2, 1);
        dueEach("field(f, 4)", f -> x.field(f, 4), BAD, 3, 4, 8, 3);
    }

    private static void fieldOthers() {
        SewnFields x = cloth("row 231203;pull 2;");
        dueEach("field(f, 5)", f -> x.field(f, 5), BAD, 2, 3, 3, 3, 1);
        // bare cells and cells of its own colour do not count, those of its own colour in another field neither
        SewnFields y = cloth("row 10102;pull 2;");
        dueEach("field(f, 5)", f -> y.field(f, 5), BAD, 0, 1, 1);
        Check.due("field(0, 5) without a pull", cloth("row 123;").field(0, 5), 0);
        // all other colours
        SewnFields z = cloth("row 23132;pull 2;");
        Check.due("field(2, 5)", z.field(2, 5), 4);
    }

    private static void fieldBare() {
        SewnFields x = cloth("row 0010020;pull 2;");
        dueEach("field(f, 6)", f -> x.field(f, 6), BAD, 4, 3);
        x.pulls(0);
        dueEach("field(f, 6)", f -> x.field(f, 6), BAD, 0, 0);
        SewnFields y = cloth("row 11011;row 10001;row 11111;pull 2;");
        // the cell above the middle, and the three between the two rows of one cell
        dueEach("field(f, 6)", f -> y.field(f, 6), BAD, 4);
        dueEach("field(f, 6)", f -> cloth("row 111;pull 2;").field(f, 6), BAD, 0);
    }

    private static void fieldTouching() {
        SewnFields x = cloth("row 121;row 313;row 121;");
        // the middle cell touches four fields, the others two or three
        dueEach("field(f, 7)", f -> x.field(f, 7), BAD, 2, 3, 2, 3, 4, 3, 2, 3, 2);
        dueEach("field(f, 7)", f -> cloth("row 102;").field(f, 7), BAD, 0, 0);
        Check.due("field(7, 7)", cloth(CHECKED).field(7, 7), 2);
        Check.due("field(47, 7)", cloth(CHECKED).field(47, 7), 2);
    }

    private static void fieldNoField() {
        SewnFields x = cloth("row 12;");
        SewnFields bare = cloth("row 00;");
        for (int what = 0; what <= 7; what++) {
            int asked = what;
            dueBad("field(f, " + what + ")", n -> x.field(n, asked), 0, 1);
            Check.due("field(0, " + what + ") of a bare cloth", bare.field(0, what), BAD);
            dueBad("field(f, " + what + ") of 48", n -> cloth(CHECKED).field(n, asked), 0, 47);
        }
    }

    private static void fieldBad() {
        SewnFields x = cloth("row 12;");
        dueBad("field(0, what)", n -> x.field(0, n), 0, 7);
        dueBad("field(1, what)", n -> x.field(1, n), 0, 7);
    }

    // ---- 13

    private static void sewnField() {
        SewnFields x = cloth("row 11202;row 00203;row 10233;row 11000;");
        dueEach("sewn(f, 0, 0)", f -> x.sewn(f, 0, 0), BAD, 1, 3, 1, 2, 2);
        dueEach("sewn(f, 1, 0)", f -> x.sewn(f, 1, 0), BAD, 2, 1, 1, 2, 2);
        Check.due("sewn(47, 0, 0)", cloth(CHECKED).sewn(47, 0, 0), 1);
        Check.due("sewn(48, 0, 0)", cloth(CHECKED).sewn(48, 0, 0), BAD);
    }

    private static void sewnWay() {
        SewnFields x = cloth("row 11111111;");
        Check.due("sewn(0, 0, 0)", x.sewn(0, 0, 0), 1);
        Check.due("sewn(0, 1, 0)", x.sewn(0, 1, 0), 8);
        Check.due("sewn(0, 0, 2)", x.sewn(0, 0, 2), 3);
        Check.due("sewn(0, 1, 2)", x.sewn(0, 1, 2), 8);
        x.ways(1, 1);
        Check.due("sewn(0, 0, 0), whatever the colour's direction is", x.sewn(0, 0, 0), 1);
    }

    private static void sewnWhat() {
        SewnFields x = cloth(HOOK);
        dueEach("sewn(0, 0, what)", what -> x.sewn(0, 0, what), BAD, 4, 3, 5, 8);
        dueEach("sewn(0, 1, what)", what -> x.sewn(0, 1, what), BAD, 5, 3, 5, 6);
        dueEach("sewn(0, 0, what)", what -> cloth("row 1;").sewn(0, 0, what), BAD, 1, 1, 1, 0);
        SewnFields all = cloth("row 11111111;".repeat(6) + "most 1;");
        dueEach("sewn(0, 0, what)", what -> all.sewn(0, 0, what), BAD, 6, 1, 48, 0);
        dueEach("sewn(0, 1, what)", what -> all.sewn(0, 1, what), BAD, 8, 1, 48, 0);
    }

    private static void sewnBad() {
        SewnFields x = cloth("row 12;");
        dueBad("sewn(f, 0, 0)", n -> x.sewn(n, 0, 0), 0, 1);
        dueBad("sewn(0, way, 0)", n -> x.sewn(0, n, 0), 0, 1);
        dueBad("sewn(0, 0, what)", n -> x.sewn(0, 0, n), 0, 3);
        Check.due("sewn(0, 0, 0) of a bare cloth", new SewnFields().sewn(0, 0, 0), BAD);
    }

    // ---- 14

    private static void rowNumbers() {
        SewnFields x = cloth("row 22;row 11;row 10;");
        dueEach("row(0, 0, r, 0)", r -> x.row(0, 0, r, 0), NONE, 0);
        dueEach("row(0, 1, r, 0)", r -> x.row(0, 1, r, 0), NONE, 0, 1);
        dueEach("row(1, 0, r, 0)", r -> x.row(1, 0, r, 0), NONE, 2, 4);
        dueEach("row(1, 1, r, 0)", r -> x.row(1, 1, r, 0), NONE, 2, 3);
        Check.due("row(47, 0, 0, 0)", cloth(CHECKED).row(47, 0, 0, 0), 47);
        // a field with the most rows
        SewnFields comb = cloth("row 10101011;row 11111111;row 10101011;row 10101011;row 11111111;row 10101011;");
        Check.due("row(0, 0, 17, 0)", comb.row(0, 0, 17, 0), 46);
        Check.due("row(0, 0, 18, 0)", comb.row(0, 0, 18, 0), NONE);
    }

    private static void rowWhat() {
        SewnFields x = cloth(HOOK);
        dueEach("row(0, 0, r, 0)", r -> x.row(0, 0, r, 0), NONE, 0, 5, 7, 9);
        dueEach("row(0, 0, r, 1)", r -> x.row(0, 0, r, 1), NONE, 4, 1, 1, 2);
        dueEach("row(0, 0, r, 2)", r -> x.row(0, 0, r, 2), NONE, 2, 1, 1, 1);
        dueEach("row(0, 0, r, 3)", r -> x.row(0, 0, r, 3), NONE, 0, 1, 2, 1);
        dueEach("row(0, 1, r, 0)", r -> x.row(0, 1, r, 0), NONE, 0, 1, 2, 10, 3);
        dueEach("row(0, 1, r, 1)", r -> x.row(0, 1, r, 1), NONE, 1, 3, 1, 1, 2);
        dueEach("row(0, 1, r, 2)", r -> x.row(0, 1, r, 2), NONE, 1, 1, 1, 1, 1);
        dueEach("row(0, 1, r, 3)", r -> x.row(0, 1, r, 3), NONE, 0, 0, 1, 2, 1);
    }

    private static void rowBeyond() {
        SewnFields x = cloth(HOOK);
        for (int what = 0; what <= 3; what++) {
            Check.due("row(0, 0, 3, what)", x.row(0, 0, 3, what) >= 0 ? 1 : 0, 1);
            for (int r : new int[] {4, 5, 48, 256, 65536, MAX - 1, MAX}) {
                Check.due("row(0, 0, " + r + ", what)", x.row(0, 0, r, what), NONE);
            }
            Check.due("row(0, 1, 4, what)", x.row(0, 1, 4, what) >= 0 ? 1 : 0, 1);
            Check.due("row(0, 1, 5, what)", x.row(0, 1, 5, what), NONE);
        }
    }

    private static void rowNoField() {
        SewnFields x = cloth(HOOK);
        dueBad("row(f, 0, 0, 0)", n -> x.row(n, 0, 0, 0), 0, 0);
        dueBad("row(f, 1, 9, 3)", n -> x.row(n, 1, 9, 3), 0, 0);
        Check.due("row(0, 0, 0, 0) of a bare cloth", new SewnFields().row(0, 0, 0, 0), BAD);
    }

    private static void rowNegative() {
        SewnFields x = cloth(HOOK);
        for (int r : new int[] {-1, -2, -9, -256, -65536, MIN + 1, MIN}) {
            for (int way = 0; way <= 1; way++) {
                Check.due("row(0, way, " + r + ", 0)", x.row(0, way, r, 0), BAD);
                Check.due("row(0, way, " + r + ", 3)", x.row(0, way, r, 3), BAD);
            }
        }
    }

    private static void rowBad() {
        SewnFields x = cloth(HOOK);
        for (int r : new int[] {0, 3, 9, MAX}) {
            dueBad("row(0, way, " + r + ", 0)", n -> x.row(0, n, r, 0), 0, 1);
            dueBad("row(0, 0, " + r + ", what)", n -> x.row(0, 0, r, n), 0, 3);
        }
    }

    // ---- 15

    private static void partNumbers() {
        SewnFields x = cloth("row 2222;" + HOOK);
        dueEach("part(0, 0, p, 1)", p -> x.part(0, 0, p, 1), NONE, 0);
        dueEach("part(0, 1, p, 1)", p -> x.part(0, 1, p, 1), NONE, 0);
        dueEach("part(1, 0, p, 1)", p -> x.part(1, 0, p, 1), NONE, 4, 9, 11);
        dueEach("part(1, 1, p, 1)", p -> x.part(1, 1, p, 1), NONE, 4, 6, 14);
        Check.due("part(47, 0, 0, 1)", cloth(CHECKED).part(47, 0, 0, 1), 47);
        SewnFields comb = cloth("row 10101011;row 11111111;row 10101011;row 10101011;row 11111111;row 10101011;");
        // above 4 rows, one that joins them, 4 parts of two rows, one that joins these, and 4 rows below
        dueEach("part(0, 0, p, 0)", p -> comb.part(0, 0, p, 0), NONE, 1, 1, 1, 1, 1, 2, 2, 2, 2, 1, 1, 1, 1, 1);
    }

    private static void partWhat() {
        SewnFields x = cloth(HOOK);
        dueEach("part(0, 0, p, 0)", p -> x.part(0, 0, p, 0), NONE, 1, 2, 1);
        dueEach("part(0, 0, p, 1)", p -> x.part(0, 0, p, 1), NONE, 0, 5, 7);
        dueEach("part(0, 0, p, 2)", p -> x.part(0, 0, p, 2), NONE, 3, 9, 7);
        dueEach("part(0, 1, p, 0)", p -> x.part(0, 1, p, 0), NONE, 2, 2, 1);
        dueEach("part(0, 1, p, 1)", p -> x.part(0, 1, p, 1), NONE, 0, 2, 10);
        dueEach("part(0, 1, p, 2)", p -> x.part(0, 1, p, 2), NONE, 1, 3, 10);
    }

    private static void partHidden() {
        SewnFields x = cloth(HOOK);
        dueEach("part(0, 0, p, 3)", p -> x.part(0, 0, p, 3), NONE, 3, 5, NONE);
        dueEach("part(0, 1, p, 3)", p -> x.part(0, 1, p, 3), NONE, 1, 5, NONE);
        dueEach("part(0, 0, p, 3)", p -> cloth("row 1;").part(0, 0, p, 3), NONE, NONE);
        // the other properties of the last part have values
        Check.due("part(0, 0, 2, 0)", x.part(0, 0, 2, 0), 1);
    }

    private static void partBeyond() {
        SewnFields x = cloth(HOOK);
        for (int what = 0; what <= 3; what++) {
            for (int p : new int[] {3, 4, 48, 256, 65536, MAX - 1, MAX}) {
                Check.due("part(0, 0, " + p + ", what)", x.part(0, 0, p, what), NONE);
                Check.due("part(0, 1, " + p + ", what)", x.part(0, 1, p, what), NONE);
            }
        }
        Check.due("part(0, 0, 2, 1)", x.part(0, 0, 2, 1), 7);
        // as many rows as parts are not as many parts as rows
        SewnFields one = cloth("row 1;row 1;row 1;");
        dueEach("part(0, 0, p, 0)", p -> one.part(0, 0, p, 0), NONE, 3);
    }

    private static void partNoField() {
        SewnFields x = cloth(HOOK);
        dueBad("part(f, 0, 0, 0)", n -> x.part(n, 0, 0, 0), 0, 0);
        dueBad("part(f, 1, 9, 3)", n -> x.part(n, 1, 9, 3), 0, 0);
        Check.due("part(0, 0, 0, 0) of a bare cloth", new SewnFields().part(0, 0, 0, 0), BAD);
    }

    private static void partNegative() {
        SewnFields x = cloth(HOOK);
        for (int p : new int[] {-1, -2, -9, -256, -65536, MIN + 1, MIN}) {
            for (int way = 0; way <= 1; way++) {
                Check.due("part(0, way, " + p + ", 0)", x.part(0, way, p, 0), BAD);
                Check.due("part(0, way, " + p + ", 3)", x.part(0, way, p, 3), BAD);
            }
        }
    }

    private static void partBad() {
        SewnFields x = cloth(HOOK);
        for (int p : new int[] {0, 2, 9, MAX}) {
            dueBad("part(0, way, " + p + ", 0)", n -> x.part(0, n, p, 0), 0, 1);
            dueBad("part(0, 0, " + p + ", what)", n -> x.part(0, 0, p, n), 0, 3);
        }
    }

    // ---- 16

    private static void orderK() {
        SewnFields x = cloth("row 12131;");
        Check.due("order(-1)", x.order(-1), 2);
        dueEach("order(k)", x::order, NONE, 0, 2, 4, 1, 3);
        Check.due("order(-1) of one field", cloth("row 1;").order(-1), 0);
        Check.due("order(0) of one field", cloth("row 1;").order(0), 0);
        Check.due("order(9) of ten fields", cloth("row 12121;row 21212;").order(9), 9);
    }

    private static void orderOfNone() {
        for (SewnFields bare : new SewnFields[] {new SewnFields(), cloth("row 00000000;".repeat(6))}) {
            for (int k : new int[] {-1, 0, 1, 9, 10, MAX}) {
                Check.due("order(" + k + ") of a bare cloth", bare.order(k), NONE);
            }
        }
    }

    private static void orderBeyond() {
        SewnFields one = cloth("row 1;");
        SewnFields ten = cloth("row 12121;row 21212;");
        for (int k : new int[] {10, 11, 47, 256, 65536, MAX - 1, MAX}) {
            Check.due("order(" + k + ") of one field", one.order(k), NONE);
            Check.due("order(" + k + ") of ten fields", ten.order(k), NONE);
        }
        Check.due("order(1) of one field", one.order(1), NONE);
        Check.due("order(9) of ten fields", ten.order(9) >= 0 ? 1 : 0, 1);
        // of fewer fields than before, nothing is left over
        ten.paints(1, 0, 4, 1, 0);
        dueEach("order(k)", ten::order, NONE, 0, 1);
    }

    private static void orderBad() {
        SewnFields x = cloth("row 12;");
        for (int k : new int[] {-2, -3, -9, -256, -257, -65537, MIN + 1, MIN}) {
            Check.due("order(" + k + ")", x.order(k), BAD);
            Check.due("order(" + k + ") of a bare cloth", new SewnFields().order(k), BAD);
            Check.due("order(" + k + ") of 48 fields", cloth(CHECKED).order(k), BAD);
        }
        Check.due("order(-1)", x.order(-1), 1);
    }

    private static void orderFull() {
        SewnFields x = cloth("row 12121;row 21212;row 00000;");
        Check.due("order(-1) of 10", x.order(-1), 1);
        x.paints(4, 2, 4, 2, 3);
        for (int k : new int[] {-1, 0, 9, 10, 11, MAX}) {
            Check.due("order(" + k + ") of 11", x.order(k), FULL);
            Check.due("order(" + k + ") of 48", cloth(CHECKED).order(k), FULL);
        }
        // fields of one colour count, too
        SewnFields same = cloth("row 10101010;row 00000000;row 10101010;row 00000000;row 10100000;");
        Check.due("order(-1) of 10", same.order(-1), 0);
        same.paints(4, 4, 4, 4, 1);
        Check.due("order(-1) of 11", same.order(-1), FULL);
        same.undo();
        Check.due("order(9) of 10", same.order(9), 9);
    }

    // ---- 17

    private static void seesAdds() {
        SewnFields x = cloth("row 1110;row 0000;row 2022;row 2020;");
        // a row of three, a column of two, and a corner
        Check.due("which(0)", x.which(0), 3);
        x.sees(0, 0, 2);
        Check.due("which(0): two rows along", x.which(0), 2);
        x.sees(1, 0, 1);
        Check.due("which(0): and one row across", x.which(0), 1);
        Check.due("which(1)", x.which(1), 1);
        // the same one again is another observation, which removes nothing
        Check.due("sees()", x.sees(1, 0, 1), 3);
        Check.due("which(0)", x.which(0), 1);
    }

    private static void seesWay() {
        for (int way = 0; way <= 1; way++) {
            SewnFields x = cloth("row 1110;row 0000;row 2000;row 2000;");
            x.sees(way, 0, 1);
            Check.due("which(1) of one row", x.which(1), way);
            Check.due("which(0) of one row", x.which(0), 1);
        }
        dueBad("sees(way, 0, 0)", n -> new SewnFields().sees(n, 0, 0), 0, 1);
    }

    private static void seesWhat() {
        // figures along: 4 rows, 3 parts, 5 stitches and 8 steps, against 2, 1, 2 and 0
        int[] hook = {4, 3, 5, 8};
        int[] block = {2, 1, 2, 0};
        for (int what = 0; what <= 3; what++) {
            SewnFields x = cloth("row 1111022;row 0101022;row 0110000;");
            x.sees(0, what, hook[what]);
            Check.due("which(0) by " + what, x.which(0), 1);
            Check.due("which(1) by " + what, x.which(1), 0);
            x.forget();
            x.sees(0, what, block[what]);
            Check.due("which(0) by " + what, x.which(0), 1);
            Check.due("which(1) by " + what, x.which(1), 1);
        }
        dueBad("sees(0, what, 0)", n -> new SewnFields().sees(0, n, 0), 0, 3);
    }

    private static void seesFigure() {
        for (int n : new int[] {0, 1, 98, 99}) {
            Check.due("sees(0, 0, " + n + ")", new SewnFields().sees(0, 0, n), 1);
        }
        dueBad("sees(0, 0, n)", n -> new SewnFields().sees(0, 0, n), 0, 99);
        SewnFields none = cloth("row 1;");
        none.sees(0, 3, 0);
        Check.due("which(0) by a travel of 0", none.which(0), 1);
        // a travel of 99 can be seen, and that of 100, which one cell more makes, can not
        SewnFields x = cloth("row 10100101;row 11111101;row 10011111;row 10101001;row 11101111;row 11001001;");
        Check.due("sewn(0, 0, 3)", x.sewn(0, 0, 3), 99);
        x.sees(0, 3, 99);
        Check.due("which(0) by a travel of 99", x.which(0), 1);
        x.paints(3, 5, 3, 5, 1);
        Check.due("sewn(0, 0, 3)", x.sewn(0, 0, 3), 100);
        Check.due("which(0) by a travel of 99", x.which(0), 0);
        Check.due("sees(0, 3, 100)", x.sees(0, 3, 100), BAD);
    }

    private static void seesReturns() {
        SewnFields x = cloth("row 1;");
        for (int n = 1; n <= 6; n++) {
            Check.due("sees()", x.sees(n % 2, n % 4, n), n);
            Check.due("count(6)", x.count(6), n);
        }
        x.forget();
        Check.due("sees()", x.sees(0, 0, 0), 1);
    }

    private static void seesBad() {
        SewnFields x = cloth("row 1;");
        dueBad("sees(way, 0, 1)", n -> x.sees(n, 0, 1), 0, 1);
        dueBad("sees(0, what, 1)", n -> x.sees(0, n, 1), 0, 3);
        dueBad("sees(0, 0, n)", n -> x.sees(0, 0, n), 0, 99);
        dueBad("sees(way, what, n)", n -> x.sees(n, n, n), 0, 1);
        Check.due("count(6)", x.count(6), 0);
        Check.due("which(0)", x.which(0), 1);
    }

    private static void seesFull() {
        SewnFields x = cloth("row 12;");
        for (int i = 0; i < 6; i++) {
            x.sees(0, 0, 1);
        }
        Check.due("sees(), the 7th", x.sees(0, 0, 1), FULL);
        Check.due("sees(), the 7th", x.sees(0, 0, 2), FULL);
        Check.due("count(6)", x.count(6), 6);
        Check.due("which(0): the 7th one was not added", x.which(0), 2);
        Check.due("forget()", x.forget(), 6);
        Check.due("sees()", x.sees(0, 0, 1), 1);
    }

    // ---- 18

    private static void forgetRemoves() {
        SewnFields x = cloth("row 12;");
        for (int i = 0; i < 6; i++) {
            x.sees(0, 0, 9);
        }
        Check.due("which(0)", x.which(0), 0);
        x.forget();
        Check.due("count(6)", x.count(6), 0);
        Check.due("which(0)", x.which(0), 2);
        // the sixth one is gone, too
        for (int i = 0; i < 6; i++) {
            Check.due("which(0) by " + i, x.which(0), 2);
            x.sees(0, 0, 1);
        }
        Check.due("which(0) by 6", x.which(0), 2);
    }

    private static void forgetReturns() {
        SewnFields x = new SewnFields();
        for (int many : new int[] {0, 1, 5, 6, 7, 0}) {
            for (int i = 0; i < many; i++) {
                x.sees(0, 0, 0);
            }
            Check.due("forget() of " + many, x.forget(), Math.min(many, 6));
            Check.due("forget() again", x.forget(), 0);
        }
    }

    // ---- 19

    private static void whichFinds() {
        SewnFields x = cloth("row 1120;row 1100;");
        // all of six observations of the square
        int[][] seen = {{0, 0, 2}, {0, 1, 1}, {0, 2, 2}, {0, 3, 0}, {1, 0, 2}, {1, 2, 2}};
        for (int[] o : seen) {
            x.sees(o[0], o[1], o[2]);
        }
        Check.due("which(0)", x.which(0), 1);
        // one of the six is wrong, each in turn
        for (int wrong = 0; wrong < 6; wrong++) {
            x.forget();
            for (int i = 0; i < 6; i++) {
                x.sees(seen[i][0], seen[i][1], seen[i][2] + (i == wrong ? 1 : 0));
            }
            Check.due("which(0), " + wrong + " is wrong", x.which(0), 0);
        }
        // of the present cloth, after each kind of change
        SewnFields y = cloth("row 1111;");
        y.sees(0, 2, 2);
        Check.due("which(0)", y.which(0), 1);
        y.mosts(5);
        Check.due("which(0) by stitches of 5", y.which(0), 0);
        y.undo();
        y.paints(3, 0, 3, 0, 0);
        Check.due("which(0) of three cells", y.which(0), 0);
        types(y, "row 33330;row 00000;row 11110;");
        y.tells();
        Check.due("which(0) of another cloth", y.which(0), 2);
    }

    private static void whichWhat() {
        SewnFields x = cloth("row 1202033;");
        x.sees(0, 2, 1);
        x.sees(1, 0, 1);
        Check.due("which(0)", x.which(0), 3);
        Check.due("which(1)", x.which(1), 0);
        x.forget();
        x.sees(1, 0, 2);
        Check.due("which(0)", x.which(0), 1);
        Check.due("which(1)", x.which(1), 3);
        // four cells of many become one field of two rows, the only one
        SewnFields many = cloth(CHECKED);
        many.paints(6, 5, 6, 5, 1);
        Check.due("which(0)", many.which(0), 45);
        many.sees(0, 0, 2);
        Check.due("which(0)", many.which(0), 1);
        Check.due("which(1)", many.which(1), 38);
        // all but this one
        many.forget();
        many.sees(0, 0, 1);
        Check.due("which(0)", many.which(0), 44);
        Check.due("which(1)", many.which(1), 0);
    }

    private static void whichAll() {
        Check.due("which(0)", cloth("row 123;").which(0), 3);
        Check.due("which(1)", cloth("row 123;").which(1), 0);
        Check.due("which(0)", cloth(CHECKED).which(0), 48);
        Check.due("which(1)", cloth(CHECKED).which(1), 0);
        Check.due("which(0) of a bare cloth", new SewnFields().which(0), 0);
    }

    private static void whichNone() {
        Check.due("which(1) of a bare cloth", new SewnFields().which(1), NONE);
        SewnFields x = cloth("row 12;");
        x.sees(0, 0, 0);
        Check.due("which(1)", x.which(1), NONE);
        Check.due("which(0)", x.which(0), 0);
        // two observations that are never both right
        SewnFields y = cloth("row 110;row 002;");
        y.sees(1, 0, 1);
        y.sees(1, 0, 2);
        Check.due("which(0)", y.which(0), 0);
        Check.due("which(1)", y.which(1), NONE);
        SewnFields bare = new SewnFields();
        bare.sees(0, 0, 0);
        Check.due("which(0)", bare.which(0), 0);
        Check.due("which(1)", bare.which(1), NONE);
    }

    private static void whichBad() {
        SewnFields x = cloth("row 12;");
        dueBad("which(what)", x::which, 0, 1);
        dueBad("which(what) of a bare cloth", n -> new SewnFields().which(n), 0, 1);
    }

    // ---- 20

    private static void keepSaves() {
        for (int image = 0; image <= 1; image++) {
            SewnFields x = cloth("row 12;row 03;way 1 1;way 3 1;rank 1 1;rank 2 9;most 5;pull 2;");
            String before = look(x);
            x.keep(image);
            types(x, "row 333;");
            x.tells();
            x.back(image);
            Check.same("the cloth", look(x), before);
            dueCells(x, "/12/03");
            Check.same("directions, ranks, length and pull", settings(x), " 52 1,1 -2,9 1,-2");
        }
        // what is kept does not follow later changes, of each kind
        SewnFields y = cloth("row 12;");
        y.keep(0);
        y.paints(0, 0, 1, 0, 3);
        y.ways(1, 1);
        y.ranks(2, 2);
        y.mosts(1);
        y.pulls(1);
        y.back(0);
        dueCells(y, "/12");
        Check.same("directions, ranks, length and pull", settings(y), " 30 -2,-2 -2,-2 -2,-2");
        // neither text nor observations are kept
        SewnFields z = typed("row");
        z.sees(0, 0, 0);
        z.keep(0);
        z.clear();
        z.forget();
        z.back(0);
        Check.due("count(6)", z.count(6), 0);
        Check.due("count(7)", z.count(7), 0);
    }

    private static void keepReplaces() {
        for (int image = 0; image <= 1; image++) {
            SewnFields x = cloth("row 1;");
            x.keep(image);
            x.keep(1 - image);
            types(x, "row 22;row 22;");
            x.tells();
            Check.due("keep(image)", x.keep(image), 1);
            x.paints(0, 0, 1, 1, 0);
            x.back(image);
            dueCells(x, "/22/22");
            x.back(1 - image);
            dueCells(x, "/1");
        }
    }

    private static void keepImage() {
        SewnFields x = cloth("row 1;");
        Check.due("keep(0)", x.keep(0), 1);
        Check.due("keep(1)", x.keep(1), 1);
        Check.due("keep(2)", x.keep(2), BAD);
        Check.due("keep(-1)", x.keep(-1), BAD);
    }

    private static void keepReturns() {
        SewnFields x = new SewnFields();
        Check.due("keep() of no fields", x.keep(0), 0);
        Check.due("keep() of 48", cloth(CHECKED).keep(1), 48);
        Check.due("keep() of 3", cloth("row 10102;").keep(1), 3);
        x.paints(0, 0, 0, 0, 1);
        Check.due("keep() of 1", x.keep(0), 1);
        Check.due("count(8): keep() is no change", x.count(8), 1);
    }

    private static void keepBad() {
        SewnFields x = cloth("row 1;");
        dueBad("keep()", x::keep, 0, 1);
        Check.due("back(0): nothing was kept", x.back(0), STATE);
        Check.due("back(1): nothing was kept", x.back(1), STATE);
    }

    // ---- 21

    private static void backRestores() {
        SewnFields x = cloth("row 12;row 31;way 2 1;rank 1 4;most 1;pull 1;");
        x.keep(1);
        String before = look(x);
        for (int i = 0; i < 3; i++) {
            x.paints(0, 0, 1, 1, i);
            x.ways(2, 0);
            x.ranks(1, i);
            x.mosts(3 + i);
            x.pulls(0);
            Check.due("back(1)", x.back(1), 4);
            Check.same("the cloth", look(x), before);
        }
        Check.same("directions, ranks, length and pull", settings(x), " 11 -2,4 1,-2 -2,-2");
        Check.due("back(1)", x.back(1), 4);
        Check.same("the cloth", look(x), before);
        // text and observations stay
        types(x, "row");
        x.sees(0, 0, 0);
        x.back(1);
        Check.due("count(6)", x.count(6), 1);
        Check.due("count(7)", x.count(7), 3);
    }

    private static void backUndo() {
        for (int changes = 0; changes <= 7; changes++) {
            SewnFields x = new SewnFields();
            x.keep(0);
            for (int i = 1; i <= changes; i++) {
                x.ranks(1, i);
            }
            x.back(0);
            Check.due("count(8)", x.count(8), 0);
            Check.due("undo()", x.undo(), STATE);
            Check.due("ranks(1, 0)", x.ranks(1, 0), STATE);
            // later changes can be undone, and no more than these
            x.ranks(1, 5);
            Check.due("count(8)", x.count(8), 1);
            Check.due("undo()", x.undo(), 0);
            Check.due("ranks(1, 0)", x.ranks(1, 0), STATE);
            Check.due("undo()", x.undo(), STATE);
        }
    }

    private static void backImage() {
        SewnFields x = cloth("row 1;");
        x.keep(0);
        x.paints(0, 0, 0, 0, 2);
        x.keep(1);
        Check.due("back(0)", x.back(0), 1);
        dueCells(x, "/1");
        Check.due("back(1)", x.back(1), 1);
        dueCells(x, "/2");
        Check.due("back(2)", x.back(2), BAD);
        Check.due("back(-1)", x.back(-1), BAD);
    }

    private static void backReturns() {
        SewnFields x = cloth(CHECKED);
        x.keep(0);
        types(x, "row 0;");
        x.tells();
        x.keep(1);
        Check.due("back(0)", x.back(0), 48);
        Check.due("back(1)", x.back(1), 0);
        Check.due("count(2)", x.count(2), 0);
        Check.due("back(0)", x.back(0), 48);
        Check.due("count(2)", x.count(2), 48);
    }

    private static void backBad() {
        SewnFields x = cloth("row 1;");
        dueBad("back() without a snapshot", x::back, 0, 1);
        x.keep(0);
        x.keep(1);
        x.paints(0, 0, 0, 0, 2);
        dueBad("back() with both snapshots", x::back, 0, 1);
        dueCells(x, "/2");
        Check.due("count(8)", x.count(8), 2);
    }

    private static void backState() {
        for (int image = 0; image <= 1; image++) {
            SewnFields x = cloth("row 1;");
            Check.due("back(image)", x.back(image), STATE);
            x.keep(1 - image);
            Check.due("back(image), the other one is saved", x.back(image), STATE);
            Check.due("count(8)", x.count(8), 1);
            x.keep(image);
            Check.due("back(image)", x.back(image), 1);
            Check.due("back(image) again", x.back(image), 1);
        }
    }

    // ---- 22

    private static void countWhat() {
        SewnFields x = cloth("row 01230;row 11230;most 4;pull 1;");
        x.sees(0, 0, 0);
        types(x, "row ");
        x.ranks(1, 1);
        dueEach("count", x::count, BAD, 5, 2, 3, 4, 1, 7, 1, 4, 2);
        // the greatest of each
        SewnFields most = cloth(CHECKED);
        IntStream.rangeClosed(1, 9).forEach(rank -> most.ranks(1, rank));
        most.pulls(2);
        most.mosts(5);
        types(most, " ".repeat(121));
        IntStream.rangeClosed(1, 7).forEach(n -> most.sees(0, 0, n));
        dueEach("count", most::count, BAD, 8, 6, 48, 5, 2, 48, 6, 120, 6);
        dueEach("count", new SewnFields()::count, BAD, 1, 1, 0, 3, 0, 0, 0, 0, 0);
    }

    private static void countBad() {
        SewnFields x = cloth("row 1;");
        dueBad("count(what)", x::count, 0, 8);
        dueBad("count(what) of a new object", n -> new SewnFields().count(n), 0, 8);
    }
}
