import java.util.function.ToIntFunction;

/** Tests of each promise by answers that were worked out by hand. */
final class PromiseTests extends ClothTests {
    private static final int[] FAR = {Integer.MIN_VALUE, Integer.MAX_VALUE};

    private PromiseTests() {
    }

    static void all() {
        Check.run("1 a new object", PromiseTests::newObject);
        Check.run("2 type", PromiseTests::type);
        Check.run("3 clear", PromiseTests::clear);
        Check.run("4 tells: what is told", PromiseTests::tells);
        Check.run("4 tells: the last one counts", PromiseTests::tellsAgain);
        Check.run("4 tells: tokens and blanks", PromiseTests::tokens);
        Check.run("4 tells: faults", PromiseTests::faults);
        Check.run("4 tells: what stays", PromiseTests::tellsKeeps);
        Check.run("5 paints", PromiseTests::paints);
        Check.run("6 ways", PromiseTests::ways);
        Check.run("7 ranks", PromiseTests::ranks);
        Check.run("8 mosts", PromiseTests::mosts);
        Check.run("9 pulls", PromiseTests::pulls);
        Check.run("10 undo", PromiseTests::undo);
        Check.run("10 undo: the latest 6", PromiseTests::undoSix);
        Check.run("11 cell", PromiseTests::cell);
        Check.run("12 field", PromiseTests::field);
        Check.run("12 field: better direction", PromiseTests::better);
        Check.run("12 field: what it covers", PromiseTests::covers);
        Check.run("13 sewn", PromiseTests::sewn);
        Check.run("14 row", PromiseTests::row);
        Check.run("15 part", PromiseTests::part);
        Check.run("16 order", PromiseTests::order);
        Check.run("16 order: of many fields", PromiseTests::orderOfMany);
        Check.run("17 sees", PromiseTests::sees);
        Check.run("18 forget", PromiseTests::forget);
        Check.run("19 which", PromiseTests::which);
        Check.run("20 keep", PromiseTests::keep);
        Check.run("21 back", PromiseTests::back);
        Check.run("22 count", PromiseTests::count);
    }

    // ---- the promises

    private static void newObject() {
        SewnFields x = new SewnFields();
        dueEach("count", x::count, BAD, 1, 1, 0, 3, 0, 0, 0, 0, 0);
        Check.due("cell(0, 0, 0)", x.cell(0, 0, 0), 0);
        Check.due("cell(0, 0, 1)", x.cell(0, 0, 1), NONE);
        Check.due("cell(1, 0, 0)", x.cell(1, 0, 0), BAD);
        Check.due("cell(0, 1, 0)", x.cell(0, 1, 0), BAD);
        Check.due("undo()", x.undo(), STATE);
        Check.due("back(0)", x.back(0), STATE);
        Check.due("back(1)", x.back(1), STATE);
        Check.due("forget()", x.forget(), 0);
        Check.due("clear()", x.clear(), 0);
        Check.due("order(-1)", x.order(-1), NONE);
        Check.due("tells()", x.tells(), -10);
        for (int colour = 1; colour <= 3; colour++) {
            Check.due("ways(" + colour + ", 1)", x.ways(colour, 1), 0);
            Check.due("ranks(" + colour + ", 9)", x.ranks(colour, 9), 0);
        }
        Check.due("BAD", SewnFields.BAD, -1);
        Check.due("STATE", SewnFields.STATE, -2);
        Check.due("FULL", SewnFields.FULL, -3);
        Check.due("NONE", SewnFields.NONE, -9);
    }

    private static void type() {
        SewnFields x = new SewnFields();
        Check.due("type(0)", x.type(0), 1);
        Check.due("type(255)", x.type(255), 2);
        Check.due("type(-1)", x.type(-1), BAD);
        Check.due("type(256)", x.type(256), BAD);
        for (int far : FAR) {
            Check.due("type(far)", x.type(far), BAD);
        }
        for (int i = 3; i <= 120; i++) {
            Check.due("type(32)", x.type(32), i);
        }
        Check.due("type(32), the 121st", x.type(32), FULL);
        Check.due("type(-1) with a full text", x.type(-1), BAD);
        Check.due("count(7)", x.count(7), 120);
        Check.due("tells()", x.tells(), -10);
    }

    private static void clear() {
        SewnFields x = new SewnFields();
        Check.due("clear()", x.clear(), 0);
        types(x, "row 9;");
        Check.due("clear()", x.clear(), 6);
        Check.due("clear() again", x.clear(), 0);
        Check.due("count(7)", x.count(7), 0);
        types(x, "row 1;");
        Check.due("tells()", x.tells(), 1);
        Check.due("count(8)", x.count(8), 1);
        types(x, "row 1;".repeat(21));
        Check.due("clear() of a full text", x.clear(), 120);
        Check.due("type(114)", x.type(114), 1);
        Check.due("count(2)", x.count(2), 1);
    }

    private static void tells() {
        SewnFields x = cloth("row 0123;way 2 1;row 3210;rank 3 9;most 5;pull 2;");
        dueEach("count", x::count, BAD, 4, 2, 6, 5, 2, 6, 0, 0, 1);
        dueCells(x, "/0123/3210");
        Check.due("ways(1, 0)", x.ways(1, 0), STATE);
        Check.due("ways(2, 1)", x.ways(2, 1), STATE);
        Check.due("ways(3, 0)", x.ways(3, 0), STATE);
        Check.due("ranks(1, 0)", x.ranks(1, 0), STATE);
        Check.due("ranks(2, 0)", x.ranks(2, 0), STATE);
        Check.due("ranks(3, 9)", x.ranks(3, 9), STATE);
        types(x, "row 1;");
        Check.due("tells()", x.tells(), 1);
        dueEach("count", x::count, BAD, 1, 1, 1, 3, 0, 1, 0, 0, 2);
        Check.due("ways(2, 0): what is not told is as at first", x.ways(2, 0), STATE);
        Check.due("ranks(3, 0)", x.ranks(3, 0), STATE);
        told("row 11111111;row 22222222;row 33333333;row 00000000;row 11111111;row 22222222;", 6);
        told("row 0;", 1);
    }

    private static void tellsAgain() {
        SewnFields x = cloth("way 1 1;way 1 0;way 2 0;way 2 1;rank 3 7;rank 3 2;most 1;most 4;pull 2;pull 1;row 1;");
        Check.due("ways(1, 1)", x.ways(1, 1), 0);
        Check.due("ways(2, 0)", x.ways(2, 0), 1);
        Check.due("ranks(3, 0)", x.ranks(3, 0), 2);
        Check.due("mosts(1)", x.mosts(1), 4);
        Check.due("pulls(0)", x.pulls(0), 1);
        told("way 1 1;way 1 0;way 2 0;way 2 1;rank 3 7;rank 3 2;most 1;most 4;pull 2;pull 1;row 1;", 11);
    }

    private static void tokens() {
        told("row1;", 1);
        told("  row  1  ;  ", 1);
        told("row1;way1 1;rank2 3;most2;pull1;", 5);
        told("row 1;rank 1  9 ;", 2);
        told("row 1;".repeat(6) + "way 1 0;".repeat(10), 16);
        fault("row 1;way 11;", 10);
        fault("row 1 1;", 6);
        fault("row 1;mo st 1;", 6);
        fault("rowrow 1;", 0);
        fault("row\t1;", 3);
        fault("row 1;\n", 6);
        fault("row 1;" + (char) 0, 6);
        fault("row 1;" + (char) 255, 6);
        fault("ROW 1;", 0);
        fault("rowz 1;", 0);
        fault("rowa 1;", 0);
        fault("cow 1;", 0);
        fault("roe 1;", 0);
        fault("may 1 1;", 0);
        fault("bank 1 1;", 0);
        fault("post 1;", 0);
        fault("bull 1;", 0);
        fault("row 1;rowS 1;", 9);
        fault("row 1,", 5);
    }

    private static void faults() {
        fault("", 0);
        fault("   ", 3);
        fault("row", 3);
        fault("row ", 4);
        fault("row 1", 5);
        fault("row 1 ", 6);
        fault("way 1 1;", 8);
        fault("way 1 1; ", 9);
        fault("most 1;pull 1;", 14);
        fault("row 1;way", 9);
        fault("row 1;way 1", 11);
        fault("row 1;way 1 1", 13);
        fault("row;", 3);
        fault("way;", 3);
        fault("rank;", 4);
        fault("most;", 4);
        fault("pull;", 4);
        fault("row row", 4);
        fault("row 4;", 4);
        fault("row 1012345;", 4);
        fault("row 012301230;", 4);
        fault("row 01;row 0;", 11);
        fault("row 01;row 012;", 11);
        fault("row 01; row  3;", 13);
        fault("row 1;;", 6);
        fault(";", 0);
        fault("1", 0);
        fault("row 1;cut 1;", 6);
        fault("row 1;rows 1;", 6);
        fault("ro", 0);
        fault("row 1;ro", 6);
        fault("way 0 1;", 4);
        fault("way 4 1;", 4);
        fault("way 1 2;", 6);
        fault("way 1 01;", 6);
        fault("way 01 1;", 4);
        fault("way 1;", 5);
        fault("rank 0 1;", 5);
        fault("rank 4 1;", 5);
        fault("rank 1 10;", 7);
        fault("rank 1 x;", 7);
        fault("most 0;", 5);
        fault("most 6;", 5);
        fault("most 05;", 5);
        fault("pull 3;", 5);
        fault("pull 00;", 5);
        fault("pull -1;", 5);
        fault("most 1 1;", 7);
        fault("row 1;row 2;row 1;row 2;row 1;row 2;row 1;", 36);
        fault("row 1;row 2;row 1;row 2;row 1;row 2; row", 37);
        fault("row 1;row 2;row 1;row 2;row 1;row 2;most 1;row 33;", 43);
        fault("row 1;way 1 1;way 1 2; row 44", 20);
    }

    private static void tellsKeeps() {
        SewnFields x = cloth("row 11;");
        x.sees(0, 0, 1);
        x.keep(1);
        types(x, "row 2;row 3;");
        Check.due("tells()", x.tells(), 2);
        Check.due("count(6)", x.count(6), 1);
        Check.due("count(8)", x.count(8), 2);
        Check.due("back(1)", x.back(1), 1);
        dueCells(x, "/11");
        types(x, "row 2;row 4;");
        Check.due("tells()", x.tells(), -20);
        dueCells(x, "/11");
        Check.due("count(7)", x.count(7), 12);
        Check.due("tells() again", x.tells(), -20);
    }

    private static void paints() {
        SewnFields x = cloth("row 0000;row 0200;row 0000;");
        Check.due("paints(0, 0, 1, 1, 2)", x.paints(0, 0, 1, 1, 2), 3);
        dueCells(x, "/2200/2200/0000");
        Check.due("paints(1, 0, 3, 2, 1)", x.paints(1, 0, 3, 2, 1), 9);
        dueCells(x, "/2111/2111/0111");
        Check.due("paints(3, 2, 3, 2, 3)", x.paints(3, 2, 3, 2, 3), 1);
        Check.due("paints(0, 0, 3, 2, 0)", x.paints(0, 0, 3, 2, 0), 11);
        Check.due("count(2)", x.count(2), 0);
        Check.due("count(8)", x.count(8), 5);
        Check.due("paints(0, 0, 3, 2, 0) again", x.paints(0, 0, 3, 2, 0), STATE);
        Check.due("paints(1, 1, 1, 1, 0)", x.paints(1, 1, 1, 1, 0), STATE);
        int[][] wrong = {{-1, 0, 0, 0, 1}, {0, -1, 0, 0, 1}, {4, 0, 4, 0, 1}, {0, 3, 0, 3, 1}, {0, 0, 4, 0, 1},
            {0, 0, 0, 3, 1}, {2, 0, 1, 0, 1}, {0, 2, 0, 1, 1}, {0, 0, 0, 0, -1}, {0, 0, 0, 0, 4}};
        for (int[] w : wrong) {
            Check.due("paints() out of range", x.paints(w[0], w[1], w[2], w[3], w[4]), BAD);
        }
        for (int far : FAR) {
            Check.due("paints(far, ..)", x.paints(far, 0, far, 0, 1), BAD);
            Check.due("paints(0, far, ..)", x.paints(0, far, 0, far, 1), BAD);
            Check.due("paints(.., far)", x.paints(0, 0, 0, 0, far), BAD);
        }
        Check.due("count(8)", x.count(8), 5);
        SewnFields largest = cloth("row 00000000;".repeat(6));
        Check.due("paints(7, 5, 7, 5, 3)", largest.paints(7, 5, 7, 5, 3), 1);
        Check.due("field(0, 2)", largest.field(0, 2), 47);
        Check.due("paints(0, 0, 7, 5, 1)", largest.paints(0, 0, 7, 5, 1), 48);
    }

    private static void ways() {
        SewnFields x = cloth("row 12;row 12;pull 0;");
        for (int colour = 1; colour <= 3; colour++) {
            Check.due("ways(c, 0)", x.ways(colour, 0), STATE);
            Check.due("ways(c, 1)", x.ways(colour, 1), 0);
            Check.due("ways(c, 1) again", x.ways(colour, 1), STATE);
            Check.due("ways(c, 0) back", x.ways(colour, 0), 1);
            Check.due("ways(c, 2)", x.ways(colour, 2), BAD);
            Check.due("ways(c, -1)", x.ways(colour, -1), BAD);
        }
        Check.due("ways(0, 1)", x.ways(0, 1), BAD);
        Check.due("ways(4, 1)", x.ways(4, 1), BAD);
        for (int far : FAR) {
            Check.due("ways(far, 1)", x.ways(far, 1), BAD);
            Check.due("ways(1, far)", x.ways(1, far), BAD);
        }
        Check.due("count(8)", x.count(8), 6);
        x.pulls(1);
        Check.due("field(0, 4) along", x.field(0, 4), 4);
        x.ways(1, 1);
        Check.due("field(0, 4) across", x.field(0, 4), 2);
        Check.due("field(1, 4), still along", x.field(1, 4), 4);
    }

    private static void ranks() {
        SewnFields x = new SewnFields();
        for (int colour = 1; colour <= 3; colour++) {
            Check.due("ranks(c, 0)", x.ranks(colour, 0), STATE);
            Check.due("ranks(c, 9)", x.ranks(colour, 9), 0);
            Check.due("ranks(c, 9) again", x.ranks(colour, 9), STATE);
            Check.due("ranks(c, 4)", x.ranks(colour, 4), 9);
            Check.due("ranks(c, 10)", x.ranks(colour, 10), BAD);
            Check.due("ranks(c, -1)", x.ranks(colour, -1), BAD);
        }
        Check.due("ranks(0, 1)", x.ranks(0, 1), BAD);
        Check.due("ranks(4, 1)", x.ranks(4, 1), BAD);
        for (int far : FAR) {
            Check.due("ranks(far, 1)", x.ranks(far, 1), BAD);
            Check.due("ranks(1, far)", x.ranks(1, far), BAD);
        }
        Check.due("count(8)", x.count(8), 6);
    }

    private static void mosts() {
        SewnFields x = cloth("row 1111111;");
        Check.due("mosts(3)", x.mosts(3), STATE);
        int[] stitches = {0, 7, 4, 3, 2, 2};
        int before = 3;
        for (int n : new int[] {1, 2, 3, 4, 5}) {
            Check.due("mosts(" + n + ")", x.mosts(n), before);
            Check.due("count(3)", x.count(3), n);
            Check.due("sewn(0, 0, 2) with " + n, x.sewn(0, 0, 2), stitches[n]);
            before = n;
        }
        Check.due("mosts(5)", x.mosts(5), STATE);
        for (int n : new int[] {0, 6, -1, Integer.MIN_VALUE, Integer.MAX_VALUE}) {
            Check.due("mosts(" + n + ")", x.mosts(n), BAD);
        }
        Check.due("count(8)", x.count(8), 6);
    }

    private static void pulls() {
        SewnFields x = cloth("row 0001000;");
        Check.due("pulls(0)", x.pulls(0), STATE);
        Check.due("pulls(2)", x.pulls(2), 0);
        Check.due("field(0, 4)", x.field(0, 4), 5);
        Check.due("pulls(1)", x.pulls(1), 2);
        Check.due("field(0, 4)", x.field(0, 4), 3);
        Check.due("count(4)", x.count(4), 1);
        Check.due("pulls(1)", x.pulls(1), STATE);
        Check.due("pulls(0)", x.pulls(0), 1);
        Check.due("field(0, 4)", x.field(0, 4), 1);
        for (int n : new int[] {-1, 3, Integer.MIN_VALUE, Integer.MAX_VALUE}) {
            Check.due("pulls(" + n + ")", x.pulls(n), BAD);
        }
        Check.due("count(8)", x.count(8), 4);
    }

    private static void undo() {
        SewnFields x = cloth("row 12;row 12;rank 1 2;");
        String first = look(x);
        x.paints(0, 0, 1, 0, 3);
        Check.due("undo() of paints()", x.undo(), 1);
        Check.same("the cloth", look(x), first);
        x.ways(1, 1);
        x.pulls(1);
        Check.due("field(0, 4) across", x.field(0, 4), 2);
        Check.due("undo() of pulls()", x.undo(), 2);
        Check.due("count(4)", x.count(4), 0);
        Check.due("undo() of ways()", x.undo(), 1);
        Check.due("ways(1, 1) after it", x.ways(1, 1), 0);
        x.undo();
        Check.due("order(0)", x.order(0), 1);
        x.ranks(1, 0);
        Check.due("order(0)", x.order(0), 0);
        Check.due("undo() of ranks()", x.undo(), 1);
        Check.due("order(0)", x.order(0), 1);
        x.mosts(1);
        Check.due("undo() of mosts()", x.undo(), 1);
        Check.due("count(3)", x.count(3), 3);
        types(x, "ro");
        Check.due("undo() of tells()", x.undo(), 0);
        dueEach("count", x::count, BAD, 1, 1, 0, 3, 0, 0, 0, 2, 0);
        Check.due("undo()", x.undo(), STATE);
        Check.due("ranks(1, 0)", x.ranks(1, 0), STATE);
        types(x, "w1;");
        Check.due("tells(): the old text did not come back", x.tells(), 1);
        x.sees(0, 0, 0);
        x.keep(0);
        Check.due("undo()", x.undo(), 0);
        Check.due("count(6): observations are no change", x.count(6), 1);
        Check.due("back(0): snapshots are no change", x.back(0), 1);
    }

    private static void undoSix() {
        SewnFields x = cloth("row 1;");
        for (int n = 1; n <= 8; n++) {
            Check.due("ranks(1, n)", x.ranks(1, n), n - 1);
            Check.due("count(8)", x.count(8), Math.min(n + 1, 6));
        }
        Check.due("mosts(3) is no change", x.mosts(3), STATE);
        Check.due("mosts(9) is no change", x.mosts(9), BAD);
        for (int n = 5; n >= 0; n--) {
            Check.due("undo()", x.undo(), n);
            Check.due("ranks() after it", x.ranks(1, n + 2), STATE);
        }
        Check.due("undo()", x.undo(), STATE);
        Check.due("count(2)", x.count(2), 1);
        Check.due("ranks(1, 5)", x.ranks(1, 5), 2);
        Check.due("undo()", x.undo(), 0);
    }

    private static void cell() {
        SewnFields x = cloth("row 012;row 311;");
        int[] colours = {0, 1, 2, 3, 1, 1};
        int[] fields = {NONE, 0, 1, 2, 0, 0};
        for (int i = 0; i < 6; i++) {
            Check.due("colour of cell " + i, x.cell(i % 3, i / 3, 0), colours[i]);
            Check.due("field of cell " + i, x.cell(i % 3, i / 3, 1), fields[i]);
        }
        int[][] wrong = {{-1, 0, 0}, {3, 0, 0}, {0, -1, 0}, {0, 2, 0}, {0, 0, -1}, {0, 0, 2}};
        for (int[] w : wrong) {
            Check.due("cell() out of range", x.cell(w[0], w[1], w[2]), BAD);
        }
        for (int far : FAR) {
            Check.due("cell(far, 0, 0)", x.cell(far, 0, 0), BAD);
            Check.due("cell(0, far, 0)", x.cell(0, far, 0), BAD);
            Check.due("cell(0, 0, far)", x.cell(0, 0, far), BAD);
        }
    }

    private static void field() {
        // the 1 in the corner touches over a corner alone, and is a field of its own
        SewnFields x = cloth("row 2212;row 2110;row 2201;row 3333;");
        Check.due("count(2)", x.count(2), 5);
        dueEach("field(f, 0)", f -> x.field(f, 0), BAD, 2, 1, 2, 1, 3);
        dueEach("field(f, 1)", f -> x.field(f, 1), BAD, 5, 3, 1, 1, 4);
        dueEach("field(f, 2)", f -> x.field(f, 2), BAD, 0, 2, 3, 11, 12);
        dueEach("field(f, 7)", f -> x.field(f, 7), BAD, 2, 2, 1, 1, 2);
        for (int what = 0; what <= 7; what++) {
            Check.due("field(-1, " + what + ")", x.field(-1, what), BAD);
            Check.due("field(5, " + what + ")", x.field(5, what), BAD);
        }
        Check.due("field(0, 8)", x.field(0, 8), BAD);
        Check.due("field(0, -1)", x.field(0, -1), BAD);
        for (int far : FAR) {
            Check.due("field(far, 0)", x.field(far, 0), BAD);
            Check.due("field(0, far)", x.field(0, far), BAD);
        }
        Check.due("field(0, 0) of a bare cloth", new SewnFields().field(0, 0), BAD);
        SewnFields ring = cloth("row 222;row 212;row 222;");
        Check.due("field(0, 7): two sides of one field count once", ring.field(0, 7), 1);
        Check.due("field(1, 7)", ring.field(1, 7), 1);
        SewnFields pair = cloth("row 12;");
        Check.due("field(0, 7) of a pair", pair.field(0, 7), 1);
        Check.due("field(1, 7) of a pair", pair.field(1, 7), 1);
        // the last cell of a row and the first one of the next row do not lie side by side
        SewnFields ends = cloth("row 00000001;row 10000002;row 20000000;");
        dueEach("field(f, 1)", f -> ends.field(f, 1), BAD, 1, 1, 1, 1);
        dueEach("field(f, 7)", f -> ends.field(f, 7), BAD, 1, 1, 1, 1);
    }

    private static void better() {
        Check.due("fewer parts across", cloth("row 101;row 111;row 101;").field(0, 3), 1);
        Check.due("fewer parts along", cloth("row 111;row 010;row 111;").field(0, 3), 0);
        Check.due("fewer stitches along", cloth("row 110;row 011;").field(0, 3), 0);
        Check.due("fewer stitches across", cloth("row 10;row 11;row 01;").field(0, 3), 1);
        Check.due("parts come before stitches", cloth("row 111;row 101;row 101;").field(0, 3), 1);
        Check.due("less travel across", cloth("row 1111;row 0101;row 0110;").field(0, 3), 1);
        Check.due("less travel along", cloth("row 100;row 111;row 101;row 110;").field(0, 3), 0);
        Check.due("all equal", cloth("row 1;").field(0, 3), 0);
        Check.due("all equal", cloth("row 1110;row 1010;row 1110;").field(0, 3), 0);
        SewnFields x = cloth("row 1111;row 1111;");
        Check.due("2 rows of 4 against 4 rows of 2", x.field(0, 3), 0);
        x.mosts(4);
        Check.due("field(0, 3)", x.field(0, 3), 0);
        x.mosts(2);
        Check.due("field(0, 3): 4 stitches either way", x.field(0, 3), 0);
        SewnFields tall = cloth("row 11;row 11;row 11;row 11;");
        Check.due("4 rows of 2 against 2 rows of 4, 4 stitches either way", tall.field(0, 3), 0);
        tall.mosts(4);
        Check.due("field(0, 3): 4 stitches against 2", tall.field(0, 3), 1);
    }

    private static void covers() {
        // a ring of 1 around a bare cell; 2 and 3 beside it, and another field of 1
        String text = "row 1110231;row 1010000;row 1112000;";
        SewnFields x = cloth(text);
        Check.due("field(0, 4)", x.field(0, 4), 8);
        Check.due("field(0, 5)", x.field(0, 5), 0);
        Check.due("field(0, 6)", x.field(0, 6), 0);
        x.pulls(1);
        Check.due("field(0, 4) along, 1", x.field(0, 4), 12);
        Check.due("field(0, 5) along, 1", x.field(0, 5), 1);
        Check.due("field(0, 6) along, 1", x.field(0, 6), 3);
        x.pulls(2);
        Check.due("field(0, 4) along, 2", x.field(0, 4), 15);
        Check.due("field(0, 5) along, 2", x.field(0, 5), 2);
        Check.due("field(0, 6) along, 2", x.field(0, 6), 5);
        x.ways(1, 1);
        Check.due("field(0, 4) across, 2", x.field(0, 4), 9);
        Check.due("field(0, 5) across, 2", x.field(0, 5), 0);
        Check.due("field(0, 6) across, 2", x.field(0, 6), 1);
        // the 3 covers the 2, the bare cell and the other 1 from both of its ends, as far as the cloth has them
        Check.due("field(2, 0)", x.field(2, 0), 3);
        Check.due("field(2, 4)", x.field(2, 4), 4);
        Check.due("field(2, 5)", x.field(2, 5), 2);
        Check.due("field(2, 6)", x.field(2, 6), 1);
        SewnFields whole = cloth("row 11111111;".repeat(6));
        Check.due("field(0, 4) of the largest cloth", whole.field(0, 4), 48);
        whole.pulls(2);
        Check.due("field(0, 4) of the largest cloth, pulled", whole.field(0, 4), 48);
        SewnFields like = cloth("row 101;pull 2;");
        Check.due("field(0, 4): another field of the same colour", like.field(0, 4), 3);
        Check.due("field(0, 5): is no other colour", like.field(0, 5), 0);
        Check.due("field(0, 6)", like.field(0, 6), 1);
    }

    private static void sewn() {
        // a ring: each of its rows is a part of its own
        SewnFields ring = cloth("row 1110;row 1010;row 1110;");
        for (int way = 0; way <= 1; way++) {
            int w = way;
            dueEach("sewn(0, way, what)", what -> ring.sewn(0, w, what), BAD, 4, 4, 4, 10);
        }
        SewnFields h = cloth("row 101;row 111;row 101;most 2;");
        dueEach("sewn(0, 0, what)", what -> h.sewn(0, 0, what), BAD, 5, 5, 6, 14);
        dueEach("sewn(0, 1, what)", what -> h.sewn(0, 1, what), BAD, 3, 1, 5, 0);
        SewnFields hook = cloth("row 2000;row 1111;row 0101;row 0110;");
        dueEach("sewn(1, 0, what)", what -> hook.sewn(1, 0, what), BAD, 4, 3, 5, 8);
        dueEach("sewn(1, 1, what)", what -> hook.sewn(1, 1, what), BAD, 5, 3, 5, 6);
        int[][] wrong = {{-1, 0, 0}, {2, 0, 0}, {0, -1, 0}, {0, 2, 0}, {0, 0, -1}, {0, 0, 4}};
        for (int[] w : wrong) {
            Check.due("sewn() out of range", hook.sewn(w[0], w[1], w[2]), BAD);
        }
        for (int far : FAR) {
            Check.due("sewn(far, 0, 0)", hook.sewn(far, 0, 0), BAD);
            Check.due("sewn(0, far, 0)", hook.sewn(0, far, 0), BAD);
            Check.due("sewn(0, 0, far)", hook.sewn(0, 0, far), BAD);
        }
    }

    private static void row() {
        SewnFields x = cloth("row 2000;row 1111;row 0101;row 0110;");
        dueEach("row(1, 0, r, 0)", r -> x.row(1, 0, r, 0), NONE, 4, 9, 11, 13);
        dueEach("row(1, 0, r, 1)", r -> x.row(1, 0, r, 1), NONE, 4, 1, 1, 2);
        dueEach("row(1, 0, r, 2)", r -> x.row(1, 0, r, 2), NONE, 2, 1, 1, 1);
        dueEach("row(1, 0, r, 3)", r -> x.row(1, 0, r, 3), NONE, 0, 1, 2, 1);
        dueEach("row(1, 1, r, 0)", r -> x.row(1, 1, r, 0), NONE, 4, 5, 6, 14, 7);
        dueEach("row(1, 1, r, 1)", r -> x.row(1, 1, r, 1), NONE, 1, 3, 1, 1, 2);
        dueEach("row(1, 1, r, 2)", r -> x.row(1, 1, r, 2), NONE, 1, 1, 1, 1, 1);
        dueEach("row(1, 1, r, 3)", r -> x.row(1, 1, r, 3), NONE, 0, 0, 1, 2, 1);
        int[][] wrong = {{-1, 0, 0, 0}, {2, 0, 0, 0}, {0, -1, 0, 0}, {0, 2, 0, 0}, {0, 0, -1, 0}, {0, 0, 0, -1},
            {0, 0, 0, 4}, {0, 0, 9, 4}, {0, 2, 9, 0}};
        for (int[] w : wrong) {
            Check.due("row() out of range", x.row(w[0], w[1], w[2], w[3]), BAD);
        }
        Check.due("row(0, 0, far, 0)", x.row(0, 0, Integer.MAX_VALUE, 0), NONE);
        Check.due("row(0, 0, -far, 0)", x.row(0, 0, Integer.MIN_VALUE, 0), BAD);
        for (int far : FAR) {
            Check.due("row(far, 0, 0, 0)", x.row(far, 0, 0, 0), BAD);
            Check.due("row(0, far, 0, 0)", x.row(0, far, 0, 0), BAD);
            Check.due("row(0, 0, 0, far)", x.row(0, 0, 0, far), BAD);
        }
    }

    private static void part() {
        SewnFields x = cloth("row 2000;row 1111;row 0101;row 0110;");
        dueEach("part(1, 0, p, 0)", p -> x.part(1, 0, p, 0), NONE, 1, 2, 1);
        dueEach("part(1, 0, p, 1)", p -> x.part(1, 0, p, 1), NONE, 4, 9, 11);
        dueEach("part(1, 0, p, 2)", p -> x.part(1, 0, p, 2), NONE, 7, 13, 11);
        dueEach("part(1, 0, p, 3)", p -> x.part(1, 0, p, 3), NONE, 3, 5, NONE);
        dueEach("part(1, 1, p, 0)", p -> x.part(1, 1, p, 0), NONE, 2, 2, 1);
        dueEach("part(1, 1, p, 1)", p -> x.part(1, 1, p, 1), NONE, 4, 6, 14);
        dueEach("part(1, 1, p, 2)", p -> x.part(1, 1, p, 2), NONE, 5, 7, 14);
        dueEach("part(1, 1, p, 3)", p -> x.part(1, 1, p, 3), NONE, 1, 5, NONE);
        // three rows to and fro end at the last cell of the third one
        SewnFields z = cloth("row 1100;row 0110;row 0011;");
        dueEach("part(0, 0, p, 0)", p -> z.part(0, 0, p, 0), NONE, 3);
        dueEach("part(0, 0, p, 2)", p -> z.part(0, 0, p, 2), NONE, 11);
        dueEach("part(0, 1, p, 0)", p -> z.part(0, 1, p, 0), NONE, 4);
        dueEach("part(0, 1, p, 2)", p -> z.part(0, 1, p, 2), NONE, 11);
        // a row that is next to two others continues neither of them, though each of these has one next to it
        SewnFields y = cloth("row 101;row 111;row 010;");
        dueEach("part(0, 0, p, 0)", p -> y.part(0, 0, p, 0), NONE, 1, 1, 2);
        dueEach("part(0, 0, p, 1)", p -> y.part(0, 0, p, 1), NONE, 0, 2, 3);
        dueEach("part(0, 0, p, 2)", p -> y.part(0, 0, p, 2), NONE, 0, 2, 7);
        dueEach("part(0, 0, p, 3)", p -> y.part(0, 0, p, 3), NONE, 4, 3, NONE);
        int[][] wrong = {{-1, 0, 0, 0}, {2, 0, 0, 0}, {0, -1, 0, 0}, {0, 2, 0, 0}, {0, 0, -1, 0}, {0, 0, 0, -1},
            {0, 0, 0, 4}, {0, 0, 9, 4}, {0, 2, 9, 0}};
        for (int[] w : wrong) {
            Check.due("part() out of range", x.part(w[0], w[1], w[2], w[3]), BAD);
        }
        Check.due("part(0, 0, far, 0)", x.part(0, 0, Integer.MAX_VALUE, 0), NONE);
        Check.due("part(0, 0, -far, 0)", x.part(0, 0, Integer.MIN_VALUE, 0), BAD);
        for (int far : FAR) {
            Check.due("part(far, 0, 0, 0)", x.part(far, 0, 0, 0), BAD);
            Check.due("part(0, far, 0, 0)", x.part(0, far, 0, 0), BAD);
            Check.due("part(0, 0, 0, far)", x.part(0, 0, 0, far), BAD);
        }
    }

    private static void order() {
        SewnFields x = cloth("row 1213;");
        // 1, 2, 1, 3: each colour at once, the smallest field first
        dueEach("order(k)", x::order, NONE, 0, 2, 1, 3);
        Check.due("order(-1)", x.order(-1), 2);
        x.ranks(1, 1);
        // the 2 and the 3 lie below the 1s
        dueEach("order(k)", x::order, NONE, 1, 3, 0, 2);
        x.ranks(2, 2);
        // the 3 below the 1s, and these below the 2
        dueEach("order(k)", x::order, NONE, 3, 0, 2, 1);
        Check.due("order(-1)", x.order(-1), 2);
        x.ranks(3, 1);
        dueEach("order(k)", x::order, NONE, 0, 2, 1, 3);
        // the 3 below the 1, and this below the 2, which does not touch the 3
        SewnFields corner = cloth("row 12;row 30;rank 1 1;rank 2 2;");
        dueEach("order(k)", corner::order, NONE, 2, 0, 1);
        SewnFields column = cloth("row 2;row 1;rank 2 1;");
        dueEach("order(k)", column::order, NONE, 1, 0);
        // ranks of colours that do not touch are free
        SewnFields apart = cloth("row 10203;rank 1 9;rank 2 5;");
        dueEach("order(k)", apart::order, NONE, 0, 1, 2);
        SewnFields one = cloth("row 101;");
        dueEach("order(k)", one::order, NONE, 0, 1);
        Check.due("order(-1)", one.order(-1), 0);
        SewnFields bare = cloth("row 00;");
        for (int k = -1; k <= 1; k++) {
            Check.due("order(" + k + ") of a bare cloth", bare.order(k), NONE);
        }
        Check.due("order(-2)", x.order(-2), BAD);
        Check.due("order(-2) of a bare cloth", bare.order(-2), BAD);
        Check.due("order(-far)", x.order(Integer.MIN_VALUE), BAD);
        Check.due("order(far)", x.order(Integer.MAX_VALUE), NONE);
    }

    private static void orderOfMany() {
        SewnFields ten = cloth("row 12121;row 21212;rank 1 1;");
        dueEach("order(k)", ten::order, NONE, 1, 3, 5, 7, 9, 0, 2, 4, 6, 8);
        Check.due("order(-1)", ten.order(-1), 1);
        SewnFields eleven = cloth("row 12121;row 21212;row 10000;");
        Check.due("count(2)", eleven.count(2), 11);
        for (int k = -1; k <= 12; k++) {
            Check.due("order(" + k + ") of 11 fields", eleven.order(k), FULL);
        }
        Check.due("order(-2) of 11 fields", eleven.order(-2), BAD);
        SewnFields many = cloth("row 12121212;row 21212121;row 12121212;row 21212121;row 12121212;row 21212121;");
        Check.due("count(2)", many.count(2), 48);
        Check.due("field(47, 2)", many.field(47, 2), 47);
        Check.due("order(0)", many.order(0), FULL);
        Check.due("field(9, 7)", many.field(9, 7), 4);
    }

    private static void sees() {
        SewnFields x = new SewnFields();
        Check.due("sees(0, 0, 0)", x.sees(0, 0, 0), 1);
        Check.due("sees(1, 3, 99)", x.sees(1, 3, 99), 2);
        int[][] wrong = {{-1, 0, 0}, {2, 0, 0}, {0, -1, 0}, {0, 4, 0}, {0, 0, -1}, {0, 0, 100}};
        for (int[] w : wrong) {
            Check.due("sees() out of range", x.sees(w[0], w[1], w[2]), BAD);
        }
        for (int far : FAR) {
            Check.due("sees(far, 0, 0)", x.sees(far, 0, 0), BAD);
            Check.due("sees(0, far, 0)", x.sees(0, far, 0), BAD);
            Check.due("sees(0, 0, far)", x.sees(0, 0, far), BAD);
        }
        for (int n = 3; n <= 6; n++) {
            Check.due("sees(0, 0, 0)", x.sees(0, 0, 0), n);
        }
        Check.due("sees(0, 0, 0), the 7th", x.sees(0, 0, 0), FULL);
        Check.due("sees(0, 0, 100), the 7th", x.sees(0, 0, 100), BAD);
        Check.due("count(6)", x.count(6), 6);
        Check.due("undo()", x.undo(), STATE);
    }

    private static void forget() {
        SewnFields x = cloth("row 12;");
        Check.due("forget()", x.forget(), 0);
        x.sees(0, 0, 9);
        x.sees(0, 0, 9);
        Check.due("which(0)", x.which(0), 0);
        Check.due("forget()", x.forget(), 2);
        Check.due("forget() again", x.forget(), 0);
        Check.due("count(6)", x.count(6), 0);
        Check.due("which(0)", x.which(0), 2);
        Check.due("sees(0, 0, 1)", x.sees(0, 0, 1), 1);
        Check.due("which(0)", x.which(0), 2);
    }

    private static void which() {
        // a ring, a row of four, a corner that is one part along, and a single cell
        SewnFields x = cloth("row 11102222;row 10100000;row 11102030;row 00002000;row 22222000;");
        Check.due("count(2)", x.count(2), 4);
        Check.due("which(0)", x.which(0), 4);
        Check.due("which(1)", x.which(1), 0);
        x.sees(0, 1, 1);
        Check.due("one part along", x.which(0), 3);
        Check.due("which(1)", x.which(1), 1);
        x.sees(1, 0, 1);
        Check.due("and one row across", x.which(0), 1);
        Check.due("which(1)", x.which(1), 3);
        x.paints(4, 0, 6, 0, 0);
        Check.due("the present cloth", x.which(0), 2);
        Check.due("which(1)", x.which(1), 1);
        x.sees(0, 2, 7);
        Check.due("none", x.which(0), 0);
        Check.due("which(1)", x.which(1), NONE);
        x.forget();
        x.sees(1, 3, 10);
        Check.due("a travel across", x.which(0), 1);
        Check.due("which(1)", x.which(1), 0);
        for (int what : new int[] {-1, 2, Integer.MIN_VALUE, Integer.MAX_VALUE}) {
            Check.due("which(" + what + ")", x.which(what), BAD);
        }
        SewnFields bare = new SewnFields();
        Check.due("which(0) of a bare cloth", bare.which(0), 0);
        Check.due("which(1) of a bare cloth", bare.which(1), NONE);
        SewnFields six = cloth("row 1120;row 1100;");
        for (int what = 0; what <= 3; what++) {
            six.sees(0, what, new int[] {2, 1, 2, 0}[what]);
        }
        six.sees(1, 0, 2);
        six.sees(1, 2, 2);
        Check.due("which(0) by six", six.which(0), 1);
        Check.due("which(1) by six", six.which(1), 0);
    }

    private static void keep() {
        SewnFields x = cloth("row 12;most 5;");
        Check.due("keep(0)", x.keep(0), 2);
        Check.due("count(8)", x.count(8), 1);
        x.paints(0, 0, 1, 0, 3);
        Check.due("keep(1)", x.keep(1), 1);
        x.paints(0, 0, 1, 0, 0);
        Check.due("keep(0), replaced", x.keep(0), 0);
        for (int image : new int[] {-1, 2, Integer.MIN_VALUE, Integer.MAX_VALUE}) {
            Check.due("keep(" + image + ")", x.keep(image), BAD);
        }
        Check.due("count(8)", x.count(8), 3);
        Check.due("back(1)", x.back(1), 1);
        dueCells(x, "/33");
        Check.due("back(0)", x.back(0), 0);
        dueCells(x, "/00");
    }

    private static void back() {
        SewnFields x = cloth("row 12;row 31;way 1 1;rank 2 7;most 5;pull 2;");
        String first = look(x);
        x.keep(0);
        Check.due("back(1)", x.back(1), STATE);
        for (int image : new int[] {-1, 2, Integer.MIN_VALUE, Integer.MAX_VALUE}) {
            Check.due("back(" + image + ")", x.back(image), BAD);
        }
        Check.due("count(8): nothing has changed", x.count(8), 1);
        types(x, "row 000;");
        x.tells();
        types(x, "row");
        x.sees(0, 0, 0);
        Check.due("back(0)", x.back(0), 4);
        Check.same("the cloth", look(x), first);
        Check.due("ways(1, 1)", x.ways(1, 1), STATE);
        Check.due("ranks(2, 7)", x.ranks(2, 7), STATE);
        Check.due("count(6)", x.count(6), 1);
        Check.due("count(7)", x.count(7), 3);
        Check.due("count(8)", x.count(8), 0);
        Check.due("undo()", x.undo(), STATE);
        x.paints(0, 0, 1, 1, 3);
        Check.due("count(8)", x.count(8), 1);
        Check.due("back(0): the snapshot remains", x.back(0), 4);
        Check.same("the cloth", look(x), first);
        x.mosts(1);
        Check.due("undo()", x.undo(), 0);
        Check.same("the cloth", look(x), first);
    }

    private static void count() {
        SewnFields x = cloth("row 01230;row 11230;most 4;pull 1;");
        x.sees(0, 0, 0);
        types(x, "row ");
        x.ranks(1, 1);
        dueEach("count", x::count, BAD, 5, 2, 3, 4, 1, 7, 1, 4, 2);
        for (int what : new int[] {-1, 9, Integer.MIN_VALUE, Integer.MAX_VALUE}) {
            Check.due("count(" + what + ")", x.count(what), BAD);
        }
    }
}
