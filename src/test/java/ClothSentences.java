import java.util.function.IntUnaryOperator;

/** Tests of each sentence of the document about the object, and of THE CLOTH. */
final class ClothSentences extends ClothTests {
    private static final String CLOTH = "THE CLOTH";

    private ClothSentences() {
    }

    static void all(Sentences s) {
        s.plain("What it is", "Embroidery planning: a cloth of coloured cells with fields of equal colour, each of which "
                + "is sewn in rows, along or across. Rows that follow one another form parts that can be sewn to and fro "
                + "without a break; between the parts the thread travels hidden within the field. The class computes "
                + "rows, parts, stitches and travels, the better direction, what a field covers when the cloth is "
                + "pulled, and an order of the fields in which lower ones come before those that lie over them, with the "
                + "fewest changes of thread. A cloth is parsed from a text; changes can be undone, and fields can be "
                + "identified by observations.");
        s.test("What it is", "An object is used for at most 512 calls after it has been made; what later calls answer is "
                + "free.", ClothSentences::lastCall);
        s.test(CLOTH, "The cloth has w columns (1 to 8) and h rows of cells (1 to 6);", ClothSentences::sizes);
        s.test(CLOTH, "at first it has one cell.", ClothSentences::oneCell);
        s.test(CLOTH, "Each cell has a colour, 0 (bare; at first) to 3.", ClothSentences::colours);
        s.test(CLOTH, "The cell in column x and row y has the number w * y + x.", ClothSentences::numbers);
        s.test(CLOTH, "Each of the colours 1 to 3 has a direction, 0 along or 1 across (0 at first),",
                ClothSentences::directions);
        s.test(CLOTH, "and a rank from 0 to 9 (0 at first).", ClothSentences::ranksOfColours);
        s.test(CLOTH, "There are the greatest stitch length (1 to 5; 3 at first)", ClothSentences::stitchLengths);
        s.test(CLOTH, "and the pull (0 to 2; 0 at first).", ClothSentences::pullsOfCloths);
        s.test(CLOTH, "A cloth is written as a text of at most 120 characters,", ClothSentences::longestText);
        s.test(CLOTH, "which is empty at first.", ClothSentences::emptyText);
        s.test(CLOTH, "The tokens are words (longest possible runs of letters a to z),", ClothSentences::words);
        s.test(CLOTH, "longest possible runs of digits,", ClothSentences::digits);
        s.test(CLOTH, "and the character ;.", ClothSentences::semicolons);
        s.test(CLOTH, "Blanks (32) may stand before, between and after tokens;", ClothSentences::blanks);
        s.test(CLOTH, "one is needed only between two runs of digits, and between two words.",
                ClothSentences::neededBlanks);
        items(s);
        faults(s);
    }

    private static void items(Sentences s) {
        s.plain(CLOTH, "The text is a sequence of items:");
        s.test(CLOTH, "\"row\" CELLS \";\" the next row of cells:", ClothSentences::nextRow);
        s.test(CLOTH, "1 to 8 digits", ClothSentences::rowLengths);
        s.test(CLOTH, "0 to 3", ClothSentences::rowDigits);
        s.test(CLOTH, "in one run;", ClothSentences::rowInOneRun);
        s.test(CLOTH, "all rows have the same length w;", ClothSentences::sameLength);
        s.test(CLOTH, "one to six rows", ClothSentences::oneToSixRows);
        s.test(CLOTH, "\"way\" C A \";\" the direction A (0 or 1) of colour C (1 to 3)", ClothSentences::wayItem);
        s.test(CLOTH, "\"rank\" C R \";\" the rank R (0 to 9) of colour C (1 to 3)", ClothSentences::rankItem);
        s.test(CLOTH, "\"most\" N \";\" the greatest stitch length, 1 to 5", ClothSentences::mostItem);
        s.test(CLOTH, "\"pull\" P \";\" the pull, 0 to 2", ClothSentences::pullItem);
        s.test(CLOTH, "C, A, R, N and P are single digits.", ClothSentences::singleDigits);
        s.test(CLOTH, "If something is told several times, the last one counts;", ClothSentences::lastCounts);
        s.test(CLOTH, "what is not told is as at first.", ClothSentences::notTold);
    }

    private static void faults(Sentences s) {
        s.test(CLOTH, "The fault of a text is the index of the first character of the first token that cannot stand there",
                ClothSentences::firstFault);
        s.test(CLOTH, "(including a word that is none of these,", ClothSentences::otherWord);
        s.test(CLOTH, "any other character,", ClothSentences::otherCharacter);
        s.test(CLOTH, "a seventh row,", ClothSentences::seventhRow);
        s.test(CLOTH, "a row of another length,", ClothSentences::otherLength);
        s.test(CLOTH, "and a number out of range);", ClothSentences::numberOutOfRange);
        s.test(CLOTH, "it is the number of characters if the text ends too early,", ClothSentences::endsTooEarly);
        s.test(CLOTH, "also if it has no row.", ClothSentences::noRow);
    }

    // ---- the object

    private static void lastCall() {
        SewnFields painted = new SewnFields();
        for (int i = 1; i <= 511; i++) {
            Check.due("paints(0, 0, 0, 0, c), call " + i, painted.paints(0, 0, 0, 0, i % 3 + 1), 1);
        }
        Check.due("count(8), call 512", painted.count(8), 6);
        SewnFields undone = new SewnFields();
        SewnFields seen = new SewnFields();
        SewnFields kept = new SewnFields();
        SewnFields typed = new SewnFields();
        for (int i = 1; i <= 256; i++) {
            undone.ranks(1 + i % 3, 1 + i % 9);
            Check.due("undo(), call " + 2 * i, undone.undo(), 0);
            Check.due("sees(1, 3, 99), call " + (2 * i - 1), seen.sees(1, 3, 99), 1);
            Check.due("forget(), call " + 2 * i, seen.forget(), 1);
            kept.keep(i % 2);
            Check.due("back(image), call " + 2 * i, kept.back(i % 2), 0);
            typed.type(i % 256);
            Check.due("clear(), call " + 2 * i, typed.clear(), 1);
        }
        SewnFields full = cloth(CHECKED);
        for (int i = 80; i <= 512; i++) {
            Check.due("which(0), call " + i, full.which(0), 48);
        }
    }

    // ---- the cloth

    private static String block(int w, int h, char colour) {
        String row = "row " + String.valueOf(colour).repeat(w) + ";";
        return row.repeat(h);
    }

    private static void sizes() {
        for (int w = 1; w <= 8; w++) {
            for (int h = 1; h <= 6; h++) {
                SewnFields x = cloth(block(w, h, '3'));
                Check.due("w", x.count(0), w);
                Check.due("h", x.count(1), h);
                Check.due("cells", x.count(5), w * h);
                Check.due("the last cell", x.cell(w - 1, h - 1, 0), 3);
                Check.due("a cell behind the last column", x.cell(w, h - 1, 0), BAD);
                Check.due("a cell below the last row", x.cell(w - 1, h, 0), BAD);
            }
        }
        fault(block(9, 1, '3'), 4);
        fault(block(1, 7, '3'), 36);
        fault("row;", 3);
    }

    private static void oneCell() {
        SewnFields x = new SewnFields();
        Check.due("w", x.count(0), 1);
        Check.due("h", x.count(1), 1);
        Check.due("cell(0, 0, 0)", x.cell(0, 0, 0), 0);
        Check.due("cell(1, 0, 0)", x.cell(1, 0, 0), BAD);
        Check.due("cell(0, 1, 0)", x.cell(0, 1, 0), BAD);
        Check.due("paints(0, 0, 1, 0, 1)", x.paints(0, 0, 1, 0, 1), BAD);
        Check.due("paints(0, 0, 0, 1, 1)", x.paints(0, 0, 0, 1, 1), BAD);
        Check.due("paints(0, 0, 0, 0, 1)", x.paints(0, 0, 0, 0, 1), 1);
        Check.due("field(0, 1)", x.field(0, 1), 1);
    }

    private static void colours() {
        SewnFields x = new SewnFields();
        Check.due("the colour at first", x.cell(0, 0, 0), 0);
        Check.due("fields at first", x.count(2), 0);
        for (int colour : new int[] {1, 2, 3, 0}) {
            Check.due("paints()", x.paints(0, 0, 0, 0, colour), 1);
            Check.due("the colour painted", x.cell(0, 0, 0), colour);
            Check.due("the colour told", cloth("row " + colour + ";").cell(0, 0, 0), colour);
            Check.due("cells that are not bare", x.count(5), colour == 0 ? 0 : 1);
        }
        dueBad("paints() with a colour", n -> x.paints(0, 0, 0, 0, n), 0, 3);
        fault("row 4;", 4);
    }

    private static void numbers() {
        for (int w = 1; w <= 8; w++) {
            for (int h = 1; h <= 6; h++) {
                SewnFields x = cloth(block(w, h, '0'));
                for (int number = 0; number < w * h; number++) {
                    x.paints(number % w, number / w, number % w, number / w, 2);
                    String of = " of the cell " + number + " with w = " + w;
                    Check.due("field(0, 2)" + of, x.field(0, 2), number);
                    Check.due("row(0, 0, 0, 0)" + of, x.row(0, 0, 0, 0), number);
                    Check.due("row(0, 1, 0, 0)" + of, x.row(0, 1, 0, 0), number);
                    Check.due("part(0, 0, 0, 1)" + of, x.part(0, 0, 0, 1), number);
                    Check.due("part(0, 1, 0, 2)" + of, x.part(0, 1, 0, 2), number);
                    x.undo();
                }
            }
        }
    }

    private static void directions() {
        // each colour has a cell that, pulled by 1, covers 3 cells along and 2 cells across
        SewnFields x = cloth("row 0102030;row 0000000;pull 1;");
        dueEach("field(f, 4) at first", f -> x.field(f, 4), BAD, 3, 3, 3);
        for (int colour = 1; colour <= 3; colour++) {
            Check.due("ways(c, 0) at first", x.ways(colour, 0), STATE);
        }
        Check.due("ways(3, 1)", x.ways(3, 1), 0);
        dueEach("field(f, 4)", f -> x.field(f, 4), BAD, 3, 3, 2);
        Check.due("ways(1, 1)", x.ways(1, 1), 0);
        Check.due("ways(2, 0)", x.ways(2, 0), STATE);
        dueEach("field(f, 4)", f -> x.field(f, 4), BAD, 2, 3, 2);
        Check.due("ways(3, 0)", x.ways(3, 0), 1);
        dueEach("field(f, 4)", f -> x.field(f, 4), BAD, 2, 3, 3);
        for (int colour = 1; colour <= 3; colour++) {
            int c = colour;
            dueBad("ways(" + c + ", A)", n -> x.ways(c, n), 0, 1);
        }
        dueBad("ways(C, 1)", n -> x.ways(n, 1), 1, 3);
    }

    private static void ranksOfColours() {
        for (int colour = 1; colour <= 3; colour++) {
            SewnFields x = new SewnFields();
            int c = colour;
            Check.due("ranks(c, 0) at first", x.ranks(c, 0), STATE);
            for (int rank = 1; rank <= 9; rank++) {
                Check.due("ranks(c, " + rank + ")", x.ranks(c, rank), rank - 1);
            }
            dueBad("ranks(" + c + ", R)", n -> x.ranks(c, n), 0, 9);
            Check.due("the rank after it", x.ranks(c, 9), STATE);
            for (int other = 1; other <= 3; other++) {
                Check.due("ranks(other, 0)", other == c ? STATE : x.ranks(other, 0), STATE);
            }
        }
        SewnFields x = new SewnFields();
        dueBad("ranks(C, 1)", n -> x.ranks(n, 1), 1, 3);
    }

    private static void stitchLengths() {
        SewnFields x = new SewnFields();
        Check.due("count(3) at first", x.count(3), 3);
        for (int n = 1; n <= 5; n++) {
            Check.due("mosts(" + n + ")", x.mosts(n), n == 1 ? 3 : n - 1);
            Check.due("count(3)", x.count(3), n);
            Check.due("count(3) of a text", cloth("row 0;most " + n + ";").count(3), n);
        }
        dueBad("mosts()", x::mosts, 1, 5);
        Check.due("count(3)", x.count(3), 5);
    }

    private static void pullsOfCloths() {
        SewnFields x = new SewnFields();
        Check.due("count(4) at first", x.count(4), 0);
        for (int n : new int[] {1, 2, 0}) {
            Check.due("pulls(" + n + ")", x.pulls(n), n == 0 ? 2 : n - 1);
            Check.due("count(4)", x.count(4), n);
            Check.due("count(4) of a text", cloth("row 0;pull " + n + ";").count(4), n);
        }
        dueBad("pulls()", x::pulls, 0, 2);
        Check.due("count(4)", x.count(4), 0);
    }

    // ---- the text

    private static void longestText() {
        told("row 3" + " ".repeat(114) + ";", 1);
        String longest = "row 1;".repeat(6) + "way 1 1;".repeat(9) + "rank 3  9  ;";
        Check.due("its length", longest.length(), 120);
        told(longest, 16);
        SewnFields x = typed("row 3" + " ".repeat(115));
        Check.due("type(59), the 121st", x.type(';'), FULL);
        Check.due("tells(): the ; was not taken", x.tells(), -10 - 120);
        fault(" ".repeat(119) + "?", 119);
        fault(" ".repeat(120), 120);
    }

    private static void emptyText() {
        SewnFields x = new SewnFields();
        Check.due("count(7)", x.count(7), 0);
        Check.due("tells()", x.tells(), -10);
        Check.due("clear()", x.clear(), 0);
        Check.due("type(32)", new SewnFields().type(32), 1);
    }

    private static void words() {
        // longest possible runs
        fault("rowa 1;", 0);
        fault("rowz 1;", 0);
        fault("arow 1;", 0);
        fault("zrow 1;", 0);
        fault("rowway 1;", 0);
        fault("row 1;way 1 1;mostpull 1;", 14);
        // what lies beside a to z, and capital letters, belong to no word
        for (char c : new char[] {'`', '{', '@', '[', 'A', 'Z', (char) 224, (char) 255}) {
            fault("row" + c + "1;", 3);
            fault(c + "row 1;", 0);
        }
        fault("ROW 1;", 0);
        fault("Row 1;", 0);
        fault("roW 1;", 0);
        fault("row 1; ro w 1;", 7);
    }

    private static void digits() {
        // longest possible runs: 12 is one row of two cells, never two numbers
        Check.due("w", cloth("row 12;").count(0), 2);
        fault("row 1;way 11;", 10);
        fault("row 1;rank 19;", 11);
        fault("row 12 3;", 7);
        // what lies beside 0 to 9, and other digits, belong to no run
        for (char c : new char[] {'/', ':', (char) 178, (char) 185, '.', '-', '+'}) {
            fault("row 1" + c + ";", 5);
            fault("row " + c + "1;", 4);
        }
        told("row 0;rank 1 0;rank 1 9;", 3);
    }

    private static void semicolons() {
        told("row 1;", 1);
        told("row 1 ;", 1);
        fault("row 1:", 5);
        fault("row 1<", 5);
        fault("row 1,", 5);
        fault("row 1;;", 6);
        fault(";row 1;", 0);
        fault("row;1;", 3);
    }

    private static void blanks() {
        told(" row 1 ; way 1 1 ; rank 1 1 ; most 1 ; pull 1 ; ", 5);
        told("   row   1   ;   way   1   1   ;   rank   1   1   ;   most   1   ;   pull   1   ;   ", 5);
        told(" ".repeat(114) + "row 1;", 1);
        told("row 1;" + " ".repeat(114), 1);
        for (int c : new int[] {0, 9, 10, 11, 12, 13, 31, 33, 95, 127, 133, 160}) {
            fault((char) c + "row 1;", 0);
            fault("row" + (char) c + "1;", 3);
            fault("row 1" + (char) c + ";", 5);
            fault("row 1;" + (char) c, 6);
        }
        // no blank stands within a token
        fault("ro w 1;", 0);
        fault("row 1 1;", 6);
    }

    private static void neededBlanks() {
        told("row1;way1 1;rank1 1;most1;pull1;", 5);
        told("most1;row1;", 2);
        fault("row1;way11;", 8);
        fault("row1;rank11;", 9);
        // two words: one that could stand there, and a second one that could not
        fault("row row", 4);
        fault("rowrow", 0);
    }

    // ---- the items

    private static void nextRow() {
        dueCells(cloth("row 12;row 30;row 02;"), "/12/30/02");
        dueCells(cloth("row 12;most 1;row 30;way 1 1;rank 1 1;row 02;pull 1;"), "/12/30/02");
        fault("row", 3);
        fault("row 1", 5);
        fault("row;", 3);
        fault("row way 1 1;", 4);
        fault("row 1 row 1;", 6);
    }

    private static void rowLengths() {
        for (int w = 1; w <= 8; w++) {
            SewnFields x = cloth("row " + "3".repeat(w) + ";");
            Check.due("w", x.count(0), w);
            Check.due("h", x.count(1), 1);
        }
        fault("row ;", 4);
        for (int w : new int[] {9, 10, 16, 100}) {
            fault("row " + "3".repeat(w) + ";", 4);
        }
    }

    private static void rowDigits() {
        dueCells(cloth("row 0123;"), "/0123");
        for (char c = '4'; c <= '9'; c++) {
            fault("row " + c + ";", 4);
            fault("row " + c + "0000000;", 4);
            fault("row 0000000" + c + ";", 4);
            fault("row 01;row 0" + c + ";", 11);
        }
    }

    private static void rowInOneRun() {
        fault("row 1 2;", 6);
        fault("row 0000 0000;", 9);
        fault("row 1a2;", 5);
        fault("row 1,2;", 5);
    }

    private static void sameLength() {
        for (int w = 1; w <= 8; w++) {
            for (int other = 1; other <= 9; other++) {
                String text = "row " + "1".repeat(w) + ";row " + "2".repeat(other) + ";";
                if (other == w) {
                    told(text, 2);
                } else {
                    fault(text, w + 9);
                }
            }
        }
        fault("row 12;row 12;row 12;row 12;row 12;row 1;", 39);
    }

    private static void oneToSixRows() {
        for (int h = 1; h <= 6; h++) {
            Check.due("h", cloth("row 1;".repeat(h)).count(1), h);
        }
        fault("most 1;", 7);
        fault("row 1;".repeat(7), 36);
        fault("row 1;".repeat(8), 36);
    }

    /** Makes the cloth of a text with a number in it, if this is in range; otherwise there is a fault at the number. */
    private static void dueRange(String before, int low, int high, String after, IntUnaryOperator look) {
        for (int n = 0; n <= 9; n++) {
            String text = before + n + after;
            if (n >= low && n <= high) {
                Check.due(text, look.applyAsInt(n), n);
            } else {
                fault(text, before.length());
            }
        }
    }

    private static void wayItem() {
        for (int colour = 1; colour <= 3; colour++) {
            int c = colour;
            dueRange("row 1;way " + c + " ", 0, 1, ";", n -> {
                SewnFields x = cloth("row 1;way " + c + " " + n + ";");
                Check.due("ways() of another colour", x.ways(c % 3 + 1, 0), STATE);
                return x.ways(c, 1 - n);
            });
        }
        dueRange("row 1;way ", 1, 3, " 1;", n -> cloth("row 1;way " + n + " 1;").ways(n, 0) == 1 ? n : -1);
        fault("way;", 3);
        fault("way 1;", 5);
        fault("way 1 1 1;", 8);
    }

    private static void rankItem() {
        for (int colour = 1; colour <= 3; colour++) {
            int c = colour;
            dueRange("row 1;rank " + c + " ", 0, 9, ";", n -> {
                SewnFields x = cloth("row 1;rank " + c + " " + n + ";");
                Check.due("ranks() of another colour", x.ranks(c % 3 + 1, 0), STATE);
                return x.ranks(c, (n + 1) % 10);
            });
        }
        dueRange("row 1;rank ", 1, 3, " 9;", n -> cloth("row 1;rank " + n + " 9;").ranks(n, 0) == 9 ? n : -1);
        fault("rank;", 4);
        fault("rank 1;", 6);
        fault("rank 1 1 1;", 9);
    }

    private static void mostItem() {
        dueRange("row 1;most ", 1, 5, ";", n -> cloth("row 1;most " + n + ";").count(3));
        fault("most;", 4);
        fault("most 1 1;", 7);
    }

    private static void pullItem() {
        dueRange("row 1;pull ", 0, 2, ";", n -> cloth("row 1;pull " + n + ";").count(4));
        fault("pull;", 4);
        fault("pull 1 1;", 7);
    }

    private static void singleDigits() {
        // zeros before a number, and numbers that would be in range if they wrapped around
        for (String more : new String[] {"01", "11", "00", "10", "257", "4294967297", "18446744073709551617"}) {
            fault("row 1;way " + more + " 1;", 10);
            fault("row 1;way 1 " + more + ";", 12);
            fault("row 1;rank " + more + " 1;", 11);
            fault("row 1;rank 1 " + more + ";", 13);
            fault("row 1;most " + more + ";", 11);
            fault("row 1;pull " + more + ";", 11);
        }
    }

    private static void lastCounts() {
        SewnFields x = cloth("way 1 1;way 2 1;way 1 0;rank 3 9;rank 3 0;rank 3 7;most 5;row 1;most 2;pull 1;pull 2;");
        Check.due("ways(1, 1)", x.ways(1, 1), 0);
        Check.due("ways(2, 0)", x.ways(2, 0), 1);
        Check.due("ranks(3, 0)", x.ranks(3, 0), 7);
        Check.due("count(3)", x.count(3), 2);
        Check.due("count(4)", x.count(4), 2);
        // also if the last one is as at first
        SewnFields y = cloth("row 1;way 1 1;way 1 0;rank 1 5;rank 1 0;most 5;most 3;pull 2;pull 0;");
        Check.same("directions, ranks, length and pull", settings(y), settings(cloth("row 1;")));
    }

    private static void notTold() {
        SewnFields x = cloth("row 333;row 333;way 1 1;way 2 1;way 3 1;rank 1 7;rank 2 8;rank 3 9;most 5;pull 2;");
        types(x, "row 20;");
        Check.due("tells()", x.tells(), 1);
        dueCells(x, "/20");
        Check.due("count(5)", x.count(5), 1);
        Check.same("directions, ranks, length and pull", settings(x), settings(new SewnFields()));
        // one of each is told
        SewnFields y = cloth("row 1;way 2 1;rank 3 4;");
        Check.due("ways(1, 0)", y.ways(1, 0), STATE);
        Check.due("ways(3, 0)", y.ways(3, 0), STATE);
        Check.due("ranks(1, 0)", y.ranks(1, 0), STATE);
        Check.due("ranks(2, 0)", y.ranks(2, 0), STATE);
        Check.due("count(3)", y.count(3), 3);
        Check.due("count(4)", y.count(4), 0);
    }

    // ---- the fault of a text

    private static void firstFault() {
        // what stands well, and behind it every token that cannot follow it
        String[][] wrong = {{"", ";", "1", "cut", "-"}, {"row 12;", ";", "1", "cut", "-"}, {"row", ";", "row", "4", "-"},
            {"row 12", "1", "row", "-"}, {"row 12; row", ";", "way", "1", "123", "14", "-"}, {"way", ";", "way", "0", "-"},
            {"way 1", ";", "way", "2", "-"}, {"way 1 1", "1", "way", "-"}, {"rank", ";", "rank", "0", "4", "-"},
            {"rank 3", ";", "rank", "10", "-"}, {"rank 3 9", "1", "rank", "-"}, {"most", ";", "most", "0", "6", "-"},
            {"most 5", "1", "most", "-"}, {"pull", ";", "pull", "3", "-"}, {"pull 2", "1", "pull", "-"}};
        for (String[] state : wrong) {
            for (int i = 1; i < state.length; i++) {
                fault(state[0] + " " + state[i], state[0].length() + 1);
                fault(state[0] + "   " + state[i] + " row 12; ?", state[0].length() + 3);
            }
        }
        // the first fault counts, and the first character of a long token
        fault("row 1; most 9; pull 9; ?", 12);
        fault("row 1; embroidery", 7);
        fault("row 0123012301230123;", 4);
    }

    private static void otherWord() {
        String[] others = {"a", "z", "r", "ro", "rows", "wo", "wa", "ways", "ran", "ranks", "mos", "mosts", "pul", "pulls",
            "low", "raw", "roe", "may", "wry", "wan", "bank", "rink", "rack", "rang", "cost", "mist", "mort", "mosh", "bull",
            "pill", "puls", "pulp", "wor", "yaw", "knar", "tsom", "llup", "tells", "cells", "c"};
        for (String other : others) {
            fault(other, 0);
            fault(other + " 1;", 0);
            fault("row 1;" + other + " 1 1;", 6);
            fault("row " + other + ";", 4);
        }
    }

    private static void otherCharacter() {
        for (int c = 0; c <= 255; c++) {
            boolean ofToken = c >= 'a' && c <= 'z' || c >= '0' && c <= '9' || c == ';' || c == ' ';
            if (!ofToken) {
                fault((char) c + "row 1;", 0);
                fault("row" + (char) c, 3);
                fault("row " + (char) c + "1;", 4);
                fault("row 1" + (char) c + ";", 5);
                fault("row 1;" + (char) c, 6);
                fault("row 1;way 1" + (char) c + "1;", 11);
            }
        }
    }

    private static void seventhRow() {
        String six = "row 12;".repeat(6);
        told(six, 6);
        told(six + "most 1;", 7);
        fault(six + "row 12;", 42);
        fault(six + "row", 42);
        fault(six + "  row 1;", 44);
        fault(six + "most 1; row 12;", 50);
        fault(six + "rows", 42);
    }

    private static void otherLength() {
        fault("row 12;row 1;", 11);
        fault("row 12;row 123;", 11);
        fault("row 12; row   1;", 14);
        fault("row 12;most 1;row 123;", 18);
        fault("row 12345670;", 4);
        fault("row 11111111;row 1111111;", 17);
        fault("row 11111111;row 111111111;", 17);
        fault("row 12;row 12;row 12;row 12;row 12;row 123;", 39);
        // the length of a row that was refused before counts for nothing
        SewnFields x = typed("row 123;row 9");
        x.tells();
        x.clear();
        types(x, "row 12;row 21;");
        Check.due("tells()", x.tells(), 2);
    }

    private static void numberOutOfRange() {
        fault("row 8;", 4);
        fault("way 0 0;", 4);
        fault("way 4 0;", 4);
        fault("way 1 2;", 6);
        fault("rank 0 0;", 5);
        fault("rank 4 0;", 5);
        fault("rank 1 10;", 7);
        fault("most 0;", 5);
        fault("most 6;", 5);
        fault("pull 3;", 5);
        // the number in range stands, and what follows does not
        fault("way 3 1 ?", 8);
        fault("rank 3 9 ?", 9);
        fault("most 5 ?", 7);
        fault("pull 2 ?", 7);
    }

    private static void endsTooEarly() {
        String[] tokens = "row 12 ; way 3 1 ; rank 2 9 ; most 5 ; pull 2 ; row 21 ;".split(" ");
        StringBuilder text = new StringBuilder();
        int items = 0;
        for (String token : tokens) {
            text.append(token);
            items += token.equals(";") ? 1 : 0;
            for (int blanks = 0; blanks <= 2; blanks++) {
                String all = text + " ".repeat(blanks);
                if (token.equals(";")) {
                    told(all, items);
                } else {
                    fault(all, all.length());
                }
            }
            text.append(' ');
        }
        // the first items alone end too early, too
        fault("row", 3);
        fault("row 1", 5);
        fault("row 1" + " ".repeat(115), 120);
    }

    private static void noRow() {
        for (String text : new String[] {"", " ", "  ", "most 5;", "way 1 1; ", " pull 0;  ", "rank 1 1;most 1;pull 1;"}) {
            fault(text, text.length());
        }
        fault("way 1 1;".repeat(15), 120);
        told("way 1 1;rank 1 1;most 1;pull 1;row 0;", 5);
    }
}
