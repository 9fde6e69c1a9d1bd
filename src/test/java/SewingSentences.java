/** Tests of each sentence of SEWING. */
final class SewingSentences extends ClothTests {
    private static final String SEWING = "SEWING";
    private static final int ALONG = 0, ACROSS = 1;

    private SewingSentences() {
    }

    static void all(Sentences s) {
        s.test(SEWING, "A field is a largest possible set of cells of the same colour 1 to 3", SewingSentences::fields);
        s.test(SEWING, "that are connected over sides.", SewingSentences::connected);
        s.test(SEWING, "Fields are numbered by their smallest cells.", SewingSentences::fieldNumbers);
        s.test(SEWING, "For a direction, the rows of a field are the longest runs of its cells side by side in a line,",
                SewingSentences::longestRuns);
        s.test(SEWING, "that is, in a row of the cloth (along), or in a column (across).", SewingSentences::lines);
        s.test(SEWING, "They are numbered by their lines, and in the same line from the left (from above).",
                SewingSentences::rowNumbers);
        s.test(SEWING, "A row of n cells has n / (greatest stitch length) stitches, rounded up.",
                SewingSentences::stitches);
        s.test(SEWING, "A row is next to another one if it lies in the line directly after that one,",
                SewingSentences::lineAfter);
        s.test(SEWING, "and has a cell beside one of its cells.", SewingSentences::cellBeside);
        s.test(SEWING, "A row is continued by the row next to it if there is exactly one row next to it,",
                SewingSentences::exactlyOneNext);
        s.test(SEWING, "and this one is next to no other row.", SewingSentences::nextToNoOther);
        s.test(SEWING, "The parts of a field are its longest sequences of rows, each of which is continued by the "
                + "following one.", SewingSentences::longestSequences);
        s.test(SEWING, "They are numbered by their first rows.", SewingSentences::partNumbers);
        s.test(SEWING, "A part is sewn from the first (left or upper) cell of its first row to the last cell of this row,",
                SewingSentences::firstRow);
        s.test(SEWING, "then the second row from its last cell to its first cell, and so on, alternately; it ends at the "
                + "cell at which its last row ends.", SewingSentences::alternately);
        s.test(SEWING, "The hidden way from a part to the following one (by number)", SewingSentences::byNumber);
        s.test(SEWING, "is the smallest number of steps over sides,", SewingSentences::fewestSteps);
        s.test(SEWING, "within the field,", SewingSentences::withinField);
        s.test(SEWING, "from the cell at which the first part ends to the first cell of the other part.",
                SewingSentences::fromEndToFirst);
        s.test(SEWING, "The travel of a field is the sum of all its hidden ways.", SewingSentences::travel);
        s.test(SEWING, "The better direction of a field is the one with fewer parts;", SewingSentences::fewerParts);
        s.test(SEWING, "if these are equal the one with fewer stitches of all rows;", SewingSentences::fewerStitches);
        s.test(SEWING, "if these are equal the one with less travel;", SewingSentences::lessTravel);
        s.test(SEWING, "and otherwise along.", SewingSentences::otherwiseAlong);
        covering(s);
    }

    private static void covering(Sentences s) {
        s.test(SEWING, "A field covers, by the direction of its colour,", SewingSentences::byColour);
        s.test(SEWING, "its own cells, and for each row also as many cells as the pull,", SewingSentences::asThePull);
        s.test(SEWING, "at both of its ends in its line,", SewingSentences::bothEnds);
        s.test(SEWING, "as far as the cloth has them.", SewingSentences::asFarAsTheCloth);
        s.test(SEWING, "Two fields touch if a cell of the one and a cell of the other lie side by side.",
                SewingSentences::touch);
        s.test(SEWING, "Of two fields that touch, the one whose colour has the lower rank is sewn before the other one",
                SewingSentences::lowerRank);
        s.test(SEWING, "(for equal ranks, any order).", SewingSentences::equalRanks);
        s.test(SEWING, "The order of sewing is, of all orders of all fields with this property, the one with the fewest "
                + "changes", SewingSentences::fewestChanges);
        s.test(SEWING, "(a change is that a field has another colour than the one before it),",
                SewingSentences::changes);
        s.test(SEWING, "and of several the lexicographically smallest one.", SewingSentences::smallestOrder);
    }

    // ---- fields

    private static void fields() {
        for (int colour = 0; colour <= 3; colour++) {
            SewnFields one = cloth("row " + colour + ";");
            SewnFields most = cloth(("row " + String.valueOf(colour).repeat(8) + ";").repeat(6));
            Check.due("fields of one cell", one.count(2), colour == 0 ? 0 : 1);
            Check.due("fields of 48 cells", most.count(2), colour == 0 ? 0 : 1);
            Check.due("field(0, 1) of one cell", one.field(0, 1), colour == 0 ? BAD : 1);
            Check.due("field(0, 1) of 48 cells", most.field(0, 1), colour == 0 ? BAD : 48);
        }
        SewnFields many = cloth(CHECKED);
        Check.due("fields", many.count(2), 48);
        dueEach("field(f, 1) of 123", f -> cloth("row 123;").field(f, 1), BAD, 1, 1, 1);
        // arms that meet far away are one field: a snake over the whole cloth, and a spiral
        SewnFields snake = cloth("row 11111111;row 00000001;row 11111111;row 10000000;row 11111111;row 00000001;");
        Check.due("fields", snake.count(2), 1);
        Check.due("field(0, 1)", snake.field(0, 1), 27);
        SewnFields fork = cloth("row 101;row 101;row 111;");
        dueEach("field(f, 1)", f -> fork.field(f, 1), BAD, 7);
        Check.due("cell(2, 0, 1)", fork.cell(2, 0, 1), 0);
        SewnFields spiral = cloth("row 2222;row 0002;row 2202;row 2002;row 2222;");
        dueEach("field(f, 1)", f -> spiral.field(f, 1), BAD, 14);
    }

    private static void connected() {
        // not over corners, of either slope
        Check.due("fields", cloth("row 10;row 01;").count(2), 2);
        Check.due("fields", cloth("row 01;row 10;").count(2), 2);
        // not from the end of a line to the beginning of the next one, or around the cloth
        Check.due("fields", cloth("row 001;row 100;").count(2), 2);
        Check.due("fields", cloth("row 00000001;row 10000000;").count(2), 2);
        Check.due("fields", cloth("row 101;").count(2), 2);
        Check.due("fields", cloth("row 1;row 0;row 1;").count(2), 2);
        // not through other colours
        dueEach("field(f, 0)", f -> cloth("row 121;").field(f, 0), BAD, 1, 2, 1);
        // over each of the four sides
        Check.due("fields", cloth("row 11;").count(2), 1);
        Check.due("fields", cloth("row 1;row 1;").count(2), 1);
        Check.due("fields", cloth("row 010;row 111;row 010;").count(2), 1);
    }

    private static void fieldNumbers() {
        SewnFields x = cloth("row 0112;row 2111;");
        dueEach("field(f, 2)", f -> x.field(f, 2), BAD, 1, 3, 4);
        dueEach("field(f, 0)", f -> x.field(f, 0), BAD, 1, 2, 2);
        // a field that begins further right, but higher up, comes first, and its cell further left does not count
        SewnFields y = cloth("row 001;row 201;row 211;");
        dueEach("field(f, 2)", f -> y.field(f, 2), BAD, 2, 3);
        SewnFields last = cloth(CHECKED);
        for (int f = 0; f < 48; f++) {
            Check.due("field(" + f + ", 2)", last.field(f, 2), f);
        }
        // numbers follow the present cloth
        SewnFields z = cloth("row 1020;");
        Check.due("cell(2, 0, 1)", z.cell(2, 0, 1), 1);
        z.paints(0, 0, 0, 0, 0);
        Check.due("cell(2, 0, 1)", z.cell(2, 0, 1), 0);
    }

    // ---- rows

    private static void longestRuns() {
        SewnFields x = cloth("row 1101;row 1111;");
        dueEach("row(0, 0, r, 1)", r -> x.row(0, ALONG, r, 1), NONE, 2, 1, 4);
        dueEach("row(0, 1, r, 1)", r -> x.row(0, ACROSS, r, 1), NONE, 2, 2, 1, 2);
        // the end of a line and the beginning of the next one make no run
        SewnFields ends = cloth("row 111;row 100;");
        dueEach("row(0, 0, r, 1)", r -> ends.row(0, ALONG, r, 1), NONE, 3, 1);
        SewnFields columns = cloth("row 11;row 10;row 10;");
        dueEach("row(0, 1, r, 1)", r -> columns.row(0, ACROSS, r, 1), NONE, 3, 1);
        // bare cells and cells of another colour break a run
        SewnFields other = cloth("row 1211;row 1011;row 1111;row 0000;row 1111;");
        dueEach("row(0, 0, r, 1)", r -> other.row(0, ALONG, r, 1), NONE, 1, 2, 1, 2, 4);
        dueEach("row(0, 1, r, 1)", r -> other.row(0, ACROSS, r, 1), NONE, 3, 1, 3, 3);
        // the longest rows and the shortest one
        SewnFields full = cloth("row 11111111;".repeat(6));
        dueEach("row(0, 0, r, 1)", r -> full.row(0, ALONG, r, 1), NONE, 8, 8, 8, 8, 8, 8);
        dueEach("row(0, 1, r, 1)", r -> full.row(0, ACROSS, r, 1), NONE, 6, 6, 6, 6, 6, 6, 6, 6);
        dueEach("row(0, 0, r, 1)", r -> cloth("row 1;").row(0, ALONG, r, 1), NONE, 1);
    }

    private static void lines() {
        SewnFields wide = cloth("row 111;");
        dueEach("row(0, 0, r, 1)", r -> wide.row(0, ALONG, r, 1), NONE, 3);
        dueEach("row(0, 1, r, 1)", r -> wide.row(0, ACROSS, r, 1), NONE, 1, 1, 1);
        SewnFields high = cloth("row 1;row 1;row 1;");
        dueEach("row(0, 0, r, 1)", r -> high.row(0, ALONG, r, 1), NONE, 1, 1, 1);
        dueEach("row(0, 1, r, 1)", r -> high.row(0, ACROSS, r, 1), NONE, 3);
        // whatever the direction of the colour is
        high.ways(1, 1);
        Check.due("sewn(0, 0, 0)", high.sewn(0, ALONG, 0), 3);
    }

    private static void rowNumbers() {
        SewnFields x = cloth("row 10101;row 11111;");
        dueEach("row(0, 0, r, 0)", r -> x.row(0, ALONG, r, 0), NONE, 0, 2, 4, 5);
        dueEach("row(0, 1, r, 0)", r -> x.row(0, ACROSS, r, 0), NONE, 0, 6, 2, 8, 4);
        SewnFields y = cloth("row 11;row 10;row 11;");
        dueEach("row(0, 0, r, 0)", r -> y.row(0, ALONG, r, 0), NONE, 0, 2, 4);
        dueEach("row(0, 1, r, 0)", r -> y.row(0, ACROSS, r, 0), NONE, 0, 1, 5);
        // the upper row of the first column does not begin with the smallest cell of the field
        SewnFields z = cloth("row 01;row 11;");
        dueEach("row(0, 1, r, 0)", r -> z.row(0, ACROSS, r, 0), NONE, 2, 1);
    }

    private static void stitches() {
        int[][] due = {{1, 2, 3, 4, 5, 6, 7, 8}, {1, 1, 2, 2, 3, 3, 4, 4}, {1, 1, 1, 2, 2, 2, 3, 3},
            {1, 1, 1, 1, 2, 2, 2, 2}, {1, 1, 1, 1, 1, 2, 2, 2}};
        for (int most = 1; most <= 5; most++) {
            for (int n = 1; n <= 8; n++) {
                SewnFields x = cloth("row " + "1".repeat(n) + ";most " + most + ";");
                Check.due("row(0, 0, 0, 2) of " + n + " cells by " + most, x.row(0, ALONG, 0, 2), due[most - 1][n - 1]);
                Check.due("sewn(0, 0, 2)", x.sewn(0, ALONG, 2), due[most - 1][n - 1]);
                Check.due("row(0, 1, 0, 2) of 1 cell", x.row(0, ACROSS, 0, 2), 1);
                Check.due("sewn(0, 1, 2)", x.sewn(0, ACROSS, 2), n);
            }
        }
        // each row is rounded up by itself
        Check.due("sewn(0, 0, 2)", cloth("row 1111;row 1111;").sewn(0, ALONG, 2), 4);
    }

    // ---- parts

    private static void lineAfter() {
        // two lines after is not next: 3 rows in a part
        SewnFields c = cloth("row 1110;row 0010;row 1110;");
        dueEach("part(0, 0, p, 0)", p -> c.part(0, ALONG, p, 0), NONE, 3);
        // not in the line before: the lower row has none next to it
        SewnFields two = cloth("row 1;row 1;");
        dueEach("part(0, 0, p, 1)", p -> two.part(0, ALONG, p, 1), NONE, 0);
        // not in the same line
        SewnFields same = cloth("row 101;row 111;");
        dueEach("part(0, 0, p, 0)", p -> same.part(0, ALONG, p, 0), NONE, 1, 1, 1);
        SewnFields across = cloth("row 101;row 111;row 101;");
        dueEach("part(0, 1, p, 0)", p -> across.part(0, ACROSS, p, 0), NONE, 3);
    }

    private static void cellBeside() {
        // one common column is enough, at either end of a row
        dueEach("part(0, 0, p, 0)", p -> cloth("row 110;row 011;").part(0, ALONG, p, 0), NONE, 2);
        dueEach("part(0, 0, p, 0)", p -> cloth("row 011;row 110;").part(0, ALONG, p, 0), NONE, 2);
        dueEach("part(0, 0, p, 0)", p -> cloth("row 111;row 010;").part(0, ALONG, p, 0), NONE, 2);
        dueEach("part(0, 0, p, 0)", p -> cloth("row 010;row 111;").part(0, ALONG, p, 0), NONE, 2);
        // a corner is not: the row of two cells is continued by the one below its first cell
        SewnFields x = cloth("row 110;row 101;row 111;");
        dueEach("part(0, 0, p, 0)", p -> x.part(0, ALONG, p, 0), NONE, 2, 1, 1);
        SewnFields mirrored = cloth("row 011;row 101;row 111;");
        dueEach("part(0, 0, p, 0)", p -> mirrored.part(0, ALONG, p, 0), NONE, 2, 1, 1);
        SewnFields turned = cloth("row 111;row 101;row 011;");
        dueEach("part(0, 1, p, 0)", p -> turned.part(0, ACROSS, p, 0), NONE, 2, 1, 1);
    }

    private static void exactlyOneNext() {
        // none, one, two, and four
        dueEach("part(0, 0, p, 0)", p -> cloth("row 111;").part(0, ALONG, p, 0), NONE, 1);
        dueEach("part(0, 0, p, 0)", p -> cloth("row 111;row 111;").part(0, ALONG, p, 0), NONE, 2);
        dueEach("part(0, 0, p, 0)", p -> cloth("row 111;row 101;").part(0, ALONG, p, 0), NONE, 1, 1, 1);
        dueEach("part(0, 1, p, 0)", p -> cloth("row 11;row 10;row 11;").part(0, ACROSS, p, 0), NONE, 1, 1, 1);
        dueEach("part(0, 0, p, 0)", p -> cloth("row 11111111;row 10101010;").part(0, ALONG, p, 0), NONE, 1, 1, 1, 1, 1);
    }

    private static void nextToNoOther() {
        dueEach("part(0, 0, p, 0)", p -> cloth("row 101;row 111;").part(0, ALONG, p, 0), NONE, 1, 1, 1);
        dueEach("part(0, 1, p, 0)", p -> cloth("row 11;row 01;row 11;").part(0, ACROSS, p, 0), NONE, 1, 1, 1);
        dueEach("part(0, 0, p, 0)", p -> cloth("row 10101010;row 11111111;").part(0, ALONG, p, 0), NONE, 1, 1, 1, 1, 1);
        // it may be continued itself
        dueEach("part(0, 0, p, 0)", p -> cloth("row 101;row 111;row 010;").part(0, ALONG, p, 0), NONE, 1, 1, 2);
        // its other row may have two next to it: the middle row continues neither row above it
        SewnFields x = cloth("row 11101;row 10111;row 10000;");
        dueEach("row(0, 0, r, 3)", r -> x.row(0, ALONG, r, 3), NONE, 0, 1, 2, 3, 2);
    }

    private static void longestSequences() {
        dueEach("part(0, 0, p, 0)", p -> cloth("row 1;").part(0, ALONG, p, 0), NONE, 1);
        SewnFields full = cloth("row 11111111;".repeat(6));
        dueEach("part(0, 0, p, 0)", p -> full.part(0, ALONG, p, 0), NONE, 6);
        dueEach("part(0, 1, p, 0)", p -> full.part(0, ACROSS, p, 0), NONE, 8);
        // each row is a part of its own
        SewnFields ring = cloth("row 111;row 101;row 111;");
        dueEach("part(0, 0, p, 0)", p -> ring.part(0, ALONG, p, 0), NONE, 1, 1, 1, 1);
        dueEach("row(0, 0, r, 3)", r -> ring.row(0, ALONG, r, 3), NONE, 0, 1, 2, 3);
        // a sequence begins in the midst of the field, and runs to its end
        SewnFields y = cloth("row 101;row 111;row 010;row 010;row 011;row 001;");
        dueEach("part(0, 0, p, 0)", p -> y.part(0, ALONG, p, 0), NONE, 1, 1, 5);
        // most parts in a field: a comb
        SewnFields comb = cloth("row 10101010;row 11111111;row 10101010;");
        dueEach("part(0, 0, p, 0)", p -> comb.part(0, ALONG, p, 0), NONE, 1, 1, 1, 1, 1, 1, 1, 1, 1);
    }

    private static void partNumbers() {
        // the part that begins in the second line has a row behind that of the part that begins right of it
        SewnFields x = cloth("row 1111;row 0101;row 0110;");
        dueEach("row(0, 0, r, 3)", r -> x.row(0, ALONG, r, 3), NONE, 0, 1, 2, 1);
        dueEach("part(0, 0, p, 1)", p -> x.part(0, ALONG, p, 1), NONE, 0, 5, 7);
        // across: two parts begin in the first column, then there is one that begins in the second one
        SewnFields y = cloth("row 1111;row 0101;row 1101;");
        dueEach("row(0, 1, r, 3)", r -> y.row(0, ACROSS, r, 3), NONE, 0, 1, 2, 2, 2);
        dueEach("part(0, 1, p, 1)", p -> y.part(0, ACROSS, p, 1), NONE, 0, 8, 1);
    }

    private static void firstRow() {
        SewnFields one = cloth("row 0111;row 0000;");
        Check.due("part(0, 0, 0, 1)", one.part(0, ALONG, 0, 1), 1);
        Check.due("part(0, 0, 0, 2)", one.part(0, ALONG, 0, 2), 3);
        SewnFields high = cloth("row 00;row 01;row 01;row 01;");
        Check.due("part(0, 1, 0, 1)", high.part(0, ACROSS, 0, 1), 3);
        Check.due("part(0, 1, 0, 2)", high.part(0, ACROSS, 0, 2), 7);
        // a row of one cell ends where it begins
        SewnFields cell = cloth("row 00;row 02;");
        for (int way = 0; way <= 1; way++) {
            Check.due("part(0, way, 0, 1)", cell.part(0, way, 0, 1), 3);
            Check.due("part(0, way, 0, 2)", cell.part(0, way, 0, 2), 3);
        }
    }

    private static void alternately() {
        for (int w = 1; w <= 8; w++) {
            for (int h = 1; h <= 6; h++) {
                SewnFields x = cloth(("row " + "1".repeat(w) + ";").repeat(h));
                String of = " of " + w + " by " + h + " cells";
                Check.due("part(0, 0, 0, 2)" + of, x.part(0, ALONG, 0, 2), h % 2 == 1 ? w * h - 1 : w * (h - 1));
                Check.due("part(0, 1, 0, 2)" + of, x.part(0, ACROSS, 0, 2), w % 2 == 1 ? w * h - 1 : w - 1);
            }
        }
        // the last row of a part counts, not the longest or the lowest cell of the field
        SewnFields z = cloth("row 11110;row 00111;row 00010;");
        Check.due("part(0, 0, 0, 2)", z.part(0, ALONG, 0, 2), 13);
        SewnFields y = cloth("row 1111;row 0110;");
        Check.due("part(0, 0, 0, 2)", y.part(0, ALONG, 0, 2), 5);
    }

    // ---- hidden ways and travel

    private static void byNumber() {
        SewnFields x = cloth("row 111;row 101;");
        dueEach("part(0, 0, p, 3)", p -> x.part(0, ALONG, p, 3), NONE, 3, 4, NONE);
        // the part that follows by number is not the nearest one
        SewnFields hook = cloth("row 1111;row 0101;row 0110;");
        dueEach("part(0, 0, p, 3)", p -> hook.part(0, ALONG, p, 3), NONE, 3, 5, NONE);
        dueEach("part(0, 0, p, 3) of one part", p -> cloth("row 11;").part(0, ALONG, p, 3), NONE, NONE);
    }

    private static void fewestSteps() {
        // around a hole the shorter way is taken: above it 4 steps (below 6), 5 either way, below it 4 steps
        SewnFields ring = cloth("row 1111;row 1001;row 1111;");
        dueEach("part(0, 0, p, 3)", p -> ring.part(0, ALONG, p, 3), NONE, 4, 5, 4, NONE);
        // one step: the part of two rows ends above the first cell of the following one
        SewnFields one = cloth("row 111;row 111;row 101;");
        dueEach("part(0, 0, p, 3)", p -> one.part(0, ALONG, p, 3), NONE, 1, 4, NONE);
        // over sides: no corner is cut, which would take 2 steps in the place of 4
        SewnFields corner = cloth("row 101;row 111;");
        dueEach("part(0, 0, p, 3)", p -> corner.part(0, ALONG, p, 3), NONE, 4, 3, NONE);
        // not from the end of a line to the beginning of the next one
        SewnFields ends = cloth("row 11111111;row 10000001;");
        dueEach("part(0, 0, p, 3)", p -> ends.part(0, ALONG, p, 3), NONE, 8, 9, NONE);
    }

    private static void withinField() {
        // the straight way of 2 steps leads over a bare cell, or over another field
        SewnFields bare = cloth("row 111;row 101;");
        Check.due("part(0, 0, 1, 3) around a bare cell", bare.part(0, ALONG, 1, 3), 4);
        SewnFields other = cloth("row 111;row 121;");
        Check.due("part(0, 0, 1, 3) around another field", other.part(0, ALONG, 1, 3), 4);
        // a spiral: far within it, near over what is not in it
        SewnFields spiral = cloth("row 11111111;row 10000001;row 10111101;row 10100101;row 10001101;row 11111001;");
        dueEach("part(0, 0, p, 3)", p -> spiral.part(0, ALONG, p, 3), NONE, 8, 12, 28, 4, 5, 5, NONE);
    }

    private static void fromEndToFirst() {
        // a part of two rows ends at the first cell of its second row
        SewnFields x = cloth("row 11111;row 11111;row 10001;");
        dueEach("part(0, 0, p, 3)", p -> x.part(0, ALONG, p, 3), NONE, 1, 6, NONE);
        // a part of three rows ends at the last cell of its third row
        SewnFields y = cloth("row 11111;row 11111;row 11111;row 10001;");
        dueEach("part(0, 0, p, 3)", p -> y.part(0, ALONG, p, 3), NONE, 5, 6, NONE);
        // the other part's first cell counts, not its nearest one
        SewnFields z = cloth("row 11111;row 11011;");
        dueEach("part(0, 0, p, 3)", p -> z.part(0, ALONG, p, 3), NONE, 5, 4, NONE);
    }

    private static void travel() {
        Check.due("one part", cloth("row 11;row 11;").sewn(0, ALONG, 3), 0);
        Check.due("one cell", cloth("row 1;").sewn(0, ACROSS, 3), 0);
        SewnFields x = cloth("row 111;row 101;");
        Check.due("3 and 4 steps", x.sewn(0, ALONG, 3), 7);
        Check.due("one part", x.sewn(0, ACROSS, 3), 0);
        Check.due("4, 5 and 4 steps", cloth("row 1111;row 1001;row 1111;").sewn(0, ALONG, 3), 13);
        SewnFields spiral = cloth("row 11111111;row 10000001;row 10111101;row 10100101;row 10001101;row 11111001;");
        Check.due("8, 12, 28, 4, 5 and 5 steps", spiral.sewn(0, ALONG, 3), 62);
    }

    // ---- the better direction

    private static void dueBetter(String text, int[] along, int[] across, int due) {
        SewnFields x = cloth(text);
        for (int what = 1; what <= 3; what++) {
            Check.due("sewn(0, 0, " + what + ") of " + text, x.sewn(0, ALONG, what), along[what - 1]);
            Check.due("sewn(0, 1, " + what + ") of " + text, x.sewn(0, ACROSS, what), across[what - 1]);
        }
        Check.due("field(0, 3) of " + text, x.field(0, 3), due);
        // the direction of the colour does not matter
        x.ways(1, 1);
        Check.due("field(0, 3) of " + text + " with direction 1", x.field(0, 3), due);
    }

    private static void fewerParts() {
        // fewer parts, but more stitches
        dueBetter("row 11;row 01;row 11;row 10;", new int[] {1, 4, 0}, new int[] {3, 3, 8}, ALONG);
        dueBetter("row 1011;row 1110;", new int[] {3, 3, 8}, new int[] {1, 4, 0}, ACROSS);
        // fewer parts, and equal stitches
        dueBetter("row 11;row 10;row 11;", new int[] {1, 3, 0}, new int[] {3, 3, 7}, ALONG);
        dueBetter("row 111;row 101;", new int[] {3, 3, 7}, new int[] {1, 3, 0}, ACROSS);
    }

    private static void fewerStitches() {
        // fewer stitches, but more travel
        dueBetter("row 0111;row 1101;row 0110;", new int[] {3, 4, 9}, new int[] {3, 5, 6}, ALONG);
        dueBetter("row 1111;row 1001;row 1101;", new int[] {3, 6, 10}, new int[] {3, 5, 11}, ACROSS);
        // fewer stitches, and equal travel
        dueBetter("row 11;", new int[] {1, 1, 0}, new int[] {1, 2, 0}, ALONG);
        dueBetter("row 1;row 1;", new int[] {1, 2, 0}, new int[] {1, 1, 0}, ACROSS);
    }

    private static void lessTravel() {
        dueBetter("row 1111;row 1011;row 1100;", new int[] {3, 5, 9}, new int[] {3, 5, 10}, ALONG);
        dueBetter("row 1111;row 0101;row 1100;", new int[] {3, 5, 9}, new int[] {3, 5, 7}, ACROSS);
    }

    private static void otherwiseAlong() {
        dueBetter("row 1;", new int[] {1, 1, 0}, new int[] {1, 1, 0}, ALONG);
        dueBetter("row 11;row 11;", new int[] {1, 2, 0}, new int[] {1, 2, 0}, ALONG);
        // also if the numbers of rows differ
        dueBetter("row 11;row 11;row 11;row 11;", new int[] {1, 4, 0}, new int[] {1, 4, 0}, ALONG);
        dueBetter("row 11;most 1;", new int[] {1, 2, 0}, new int[] {1, 2, 0}, ALONG);
        dueBetter("row 1;row 1;most 1;", new int[] {1, 2, 0}, new int[] {1, 2, 0}, ALONG);
    }

    // ---- what a field covers

    private static void byColour() {
        SewnFields x = cloth("row 0000;row 0110;row 0000;row 0002;pull 1;");
        Check.due("field(0, 4) along", x.field(0, 4), 4);
        Check.due("field(1, 4) along", x.field(1, 4), 2);
        x.ways(1, 1);
        Check.due("field(0, 4) across", x.field(0, 4), 6);
        Check.due("field(1, 4), still along", x.field(1, 4), 2);
        Check.due("field(0, 3): the better direction does not matter", x.field(0, 3), ALONG);
    }

    private static void asThePull() {
        SewnFields x = cloth("row 00000;row 00000;row 00100;row 00000;row 00000;");
        int[] due = {1, 3, 5};
        for (int way = 0; way <= 1; way++) {
            for (int pull = 0; pull <= 2; pull++) {
                x.pulls(pull);
                Check.due("field(0, 4) pulled by " + pull, x.field(0, 4), due[pull]);
                Check.due("field(0, 6) pulled by " + pull, x.field(0, 6), due[pull] - 1);
            }
            x.ways(1, 1);
        }
        // each row is pulled, and no cell counts twice: neither between two rows, nor in the field itself
        SewnFields rows = cloth("row 01010;row 01110;pull 1;");
        Check.due("field(0, 4)", rows.field(0, 4), 10);
        Check.due("field(0, 6)", rows.field(0, 6), 5);
        SewnFields close = cloth("row 101;row 111;pull 2;");
        Check.due("field(0, 4)", close.field(0, 4), 6);
        SewnFields two = cloth("row 11010;row 01110;pull 2;");
        Check.due("field(0, 4)", two.field(0, 4), 10);
    }

    private static void bothEnds() {
        // the left end covers a 2 alone, and the right end a 3 alone
        SewnFields left = cloth("row 0210;row 0000;pull 1;");
        Check.due("field(1, 5)", left.field(1, 5), 1);
        Check.due("field(1, 6)", left.field(1, 6), 1);
        SewnFields right = cloth("row 0130;pull 1;");
        Check.due("field(0, 5)", right.field(0, 5), 1);
        Check.due("field(0, 6)", right.field(0, 6), 1);
        SewnFields upper = cloth("row 2;row 1;row 0;pull 1;way 1 1;");
        Check.due("field(1, 5)", upper.field(1, 5), 1);
        Check.due("field(1, 6)", upper.field(1, 6), 1);
        SewnFields lower = cloth("row 0;row 1;row 2;pull 1;way 1 1;");
        Check.due("field(0, 5)", lower.field(0, 5), 1);
        Check.due("field(0, 6)", lower.field(0, 6), 1);
    }

    private static void asFarAsTheCloth() {
        // every cell of a cloth of 4 by 3, pulled by 1 and by 2
        SewnFields x = cloth("row 0000;row 0000;row 0000;");
        int[][] along = {{2, 3, 3, 2}, {3, 4, 4, 3}};
        int[][] across = {{2, 3, 2}, {3, 3, 3}};
        for (int pull = 1; pull <= 2; pull++) {
            x.pulls(pull);
            for (int cell = 0; cell < 12; cell++) {
                x.paints(cell % 4, cell / 4, cell % 4, cell / 4, 1);
                Check.due("along from cell " + cell, x.field(0, 4), along[pull - 1][cell % 4]);
                x.paints(cell % 4, cell / 4, cell % 4, cell / 4, 2);
                x.ways(2, 1);
                Check.due("across from cell " + cell, x.field(0, 4), across[pull - 1][cell / 4]);
                x.paints(cell % 4, cell / 4, cell % 4, cell / 4, 0);
            }
        }
        // the narrowest cloth, and the largest one
        SewnFields one = cloth("row 1;pull 2;");
        Check.due("field(0, 4) along", one.field(0, 4), 1);
        one.ways(1, 1);
        Check.due("field(0, 4) across", one.field(0, 4), 1);
        SewnFields largest = cloth("row 11111111;".repeat(6) + "pull 2;");
        Check.due("field(0, 4) along", largest.field(0, 4), 48);
        largest.ways(1, 1);
        Check.due("field(0, 4) across", largest.field(0, 4), 48);
    }

    // ---- fields that touch, and the order

    private static void touch() {
        // over each side, not over corners, not around an end of a line
        dueEach("field(f, 7)", f -> cloth("row 12;").field(f, 7), BAD, 1, 1);
        dueEach("field(f, 7)", f -> cloth("row 1;row 2;").field(f, 7), BAD, 1, 1);
        dueEach("field(f, 7)", f -> cloth("row 10;row 02;").field(f, 7), BAD, 0, 0);
        dueEach("field(f, 7)", f -> cloth("row 01;row 20;").field(f, 7), BAD, 0, 0);
        dueEach("field(f, 7)", f -> cloth("row 001;row 200;").field(f, 7), BAD, 0, 0);
        dueEach("field(f, 7)", f -> cloth("row 102;").field(f, 7), BAD, 0, 0);
        dueEach("field(f, 7)", f -> cloth("row 1;").field(f, 7), BAD, 0);
        // two fields touch once, over however many sides
        dueEach("field(f, 7)", f -> cloth("row 111;row 121;row 111;").field(f, 7), BAD, 1, 1);
        dueEach("field(f, 7)", f -> cloth("row 123;row 111;").field(f, 7), BAD, 2, 2, 2);
        SewnFields most = cloth("row 23232323;row 11111111;row 32323232;");
        Check.due("field(8, 7)", most.field(8, 7), 16);
        // fields touch whatever they cover
        Check.due("field(0, 7)", cloth("row 102;pull 2;").field(0, 7), 0);
        // over a corner no rank counts, either
        dueEach("order(k)", cloth("row 10;row 02;rank 1 9;")::order, NONE, 0, 1);
    }

    private static void lowerRank() {
        for (int low = 0; low <= 8; low++) {
            String ranks = "rank 1 " + (low + 1) + ";rank 2 " + low + ";";
            dueEach("order(k) of " + ranks, cloth("row 12;" + ranks)::order, NONE, 1, 0);
            dueEach("order(k) of " + ranks, cloth("row 1;row 2;" + ranks)::order, NONE, 1, 0);
            dueEach("order(k) of " + ranks, cloth("row 21;" + ranks)::order, NONE, 0, 1);
            dueEach("order(k) of " + ranks, cloth("row 102;" + ranks)::order, NONE, 0, 1);
        }
        dueEach("order(k)", cloth("row 12;rank 1 9;")::order, NONE, 1, 0);
        // three ranks: the highest number is sewn first
        dueEach("order(k)", cloth("row 123;rank 1 9;rank 2 5;rank 3 1;")::order, NONE, 2, 1, 0);
        // 1 and 3 do not touch, and the 2 has to wait for both
        dueEach("order(k)", cloth("row 321;rank 3 1;rank 2 2;rank 1 0;")::order, NONE, 0, 2, 1);
        // the 2 has to wait for the first cell of the cloth, and this for the 3 below it
        dueEach("order(k)", cloth("row 12;row 30;rank 1 1;rank 2 2;")::order, NONE, 2, 0, 1);
    }

    private static void equalRanks() {
        for (int rank = 0; rank <= 9; rank++) {
            String ranks = "rank 1 " + rank + ";rank 2 " + rank + ";rank 3 " + rank + ";";
            dueEach("order(k) of " + ranks, cloth("row 321;" + ranks)::order, NONE, 0, 1, 2);
            dueEach("order(k) of " + ranks, cloth("row 123;" + ranks)::order, NONE, 0, 1, 2);
        }
        // 1 and 2 are equal, the 3 lies below both
        dueEach("order(k)", cloth("row 132;rank 1 4;rank 2 4;rank 3 3;")::order, NONE, 1, 0, 2);
    }

    private static void fewestChanges() {
        // 0, 1, 2, 3 would be smaller, but has more changes
        SewnFields x = cloth("row 121202;");
        dueEach("order(k)", x::order, NONE, 0, 2, 1, 3, 4);
        Check.due("order(-1)", x.order(-1), 1);
        // orders without the property do not count: the 2s first
        x.ranks(1, 1);
        dueEach("order(k)", x::order, NONE, 1, 3, 4, 0, 2);
        Check.due("order(-1)", x.order(-1), 1);
        // the first field might be sewn at once, but this would make a change more
        SewnFields free = cloth("row 1021;rank 1 1;");
        dueEach("order(k)", free::order, NONE, 1, 0, 2);
        Check.due("order(-1)", free.order(-1), 1);
        // all fields are in it, also those that touch none
        SewnFields apart = cloth("row 10203010;");
        dueEach("order(k)", apart::order, NONE, 0, 3, 1, 2);
        Check.due("order(-1)", apart.order(-1), 2);
        // ten fields of three colours
        SewnFields ten = cloth("row 12312;row 23123;rank 1 2;rank 2 1;rank 3 1;");
        dueEach("order(k)", ten::order, NONE, 1, 4, 5, 8, 2, 6, 9, 0, 3, 7);
        Check.due("order(-1)", ten.order(-1), 2);
    }

    private static void changes() {
        // the first field is no change, nor are bare cells between two fields
        Check.due("order(-1) of one field", cloth("row 1;").order(-1), 0);
        Check.due("order(-1) of one colour", cloth("row 10101;").order(-1), 0);
        Check.due("order(-1) of two colours", cloth("row 12;").order(-1), 1);
        Check.due("order(-1) of three colours", cloth("row 123;").order(-1), 2);
        Check.due("order(-1) of two fields of 3 and one of 2", cloth("row 323;").order(-1), 1);
        Check.due("order(-1), by rank", cloth("row 123;rank 1 9;rank 2 5;").order(-1), 2);
        // equal directions and ranks make no colours equal
        Check.due("order(-1)", cloth("row 12;way 1 1;way 2 1;rank 1 3;rank 2 3;").order(-1), 1);
    }

    private static void smallestOrder() {
        // one change either way: the smaller first field
        dueEach("order(k)", cloth("row 2121;")::order, NONE, 0, 2, 1, 3);
        // the 2 is first; then the 1, not the 3 behind it
        dueEach("order(k)", cloth("row 123;rank 1 1;")::order, NONE, 1, 0, 2);
        // the 3 may come first, but the 1 only behind the 2
        dueEach("order(k)", cloth("row 312;rank 1 1;rank 3 1;")::order, NONE, 0, 2, 1);
        // fields are compared, not their colours
        dueEach("order(k)", cloth("row 30201;")::order, NONE, 0, 1, 2);
        // after the first colour, again the smallest field that may come next
        dueEach("order(k)", cloth("row 10203020;row 00000000;row 10000000;")::order, NONE, 0, 4, 1, 3, 2);
    }
}
