import java.util.ArrayList;
import java.util.HashMap;
import java.util.HashSet;
import java.util.LinkedHashMap;
import java.util.List;
import java.util.Map;
import java.util.Set;
import java.util.function.Supplier;
import java.util.function.ToIntFunction;

/** Tests of each sentence of CHANGES and ERRORS; what is not promised needs none. */
final class ErrorSentences extends ClothTests {
    private static final String CHANGES = "CHANGES", ERRORS = "ERRORS";

    private ErrorSentences() {
    }

    static void all(Sentences s) {
        s.test(CHANGES, "The calls of tells(), paints(), ways(), ranks(), mosts() and pulls()",
                ErrorSentences::whatIsUndone);
        s.test(CHANGES, "that return no error can be undone;", ErrorSentences::errorsAreNoChanges);
        s.test(CHANGES, "the latest 6 are kept for that.", ErrorSentences::latestSix);
        s.test(CHANGES, "Two snapshots can be saved.", ErrorSentences::twoSnapshots);
        s.test(ERRORS, "An error is reported by the return value.", ErrorSentences::nothingThrows);
        s.test(ERRORS, "If several errors apply, the first one in the order BAD, STATE, FULL is returned,",
                ErrorSentences::orderOfErrors);
        s.test(ERRORS, "and NONE (there is no value) only if there is no error.", ErrorSentences::noneComesLast);
        s.test(ERRORS, "BAD: an argument is out of range, or names something that does not exist.", ErrorSentences::bad);
        s.test(ERRORS, "STATE and FULL: as told at the methods.", ErrorSentences::stateAndFull);
        s.test(ERRORS, "A call that returns an error changes nothing.", ErrorSentences::errorsChangeNothing);
        s.plain(ERRORS, "The constants:");
        s.test(ERRORS, "`BAD = -1, STATE = -2, FULL = -3, NONE = -9`: Error codes, and NONE for no value.",
                ErrorSentences::constants);
        s.plain(ERRORS, "The constructor and the methods follow, a promise each: the signature, then what it does.");
        s.plain("Not promised", "How the state is held inside the object is free, as are the speed of each call, the text "
                + "of toString and the behaviour of equals and hashCode. Use of one object from several threads at once "
                + "is not promised to be safe. Nothing is promised beyond the answers and state changes described above, "
                + "and nothing about an object after its 512th call.");
    }

    // ---- objects in which something is at its limit

    /** Something of everything, and a text that can be read. */
    private static SewnFields busy() {
        SewnFields x = cloth("row 112;row 032;way 2 1;rank 1 4;most 2;pull 1;");
        x.keep(0);
        x.paints(1, 0, 2, 0, 1);
        x.ranks(3, 2);
        x.sees(0, 0, 1);
        types(x, "row 12;row 30;pull 2;");
        return x;
    }

    /** A text with a fault, more changes than can be kept, and two snapshots. */
    private static SewnFields faulty() {
        SewnFields x = cloth("row 21;");
        x.keep(1);
        for (int rank = 1; rank <= 5; rank++) {
            x.ranks(1, rank);
        }
        x.ways(3, 1);
        x.pulls(2);
        x.keep(0);
        x.sees(1, 2, 1);
        x.sees(1, 1, 1);
        types(x, "row 12;row 123;");
        return x;
    }

    /** As many fields, characters and observations as there can be. */
    private static SewnFields crammed() {
        SewnFields x = cloth(CHECKED);
        x.mosts(5);
        types(x, " ".repeat(114) + "row 5;");
        for (int i = 0; i < 6; i++) {
            x.sees(0, 0, 1);
        }
        return x;
    }

    private static Map<String, Supplier<SewnFields>> objects() {
        Map<String, Supplier<SewnFields>> objects = new LinkedHashMap<>();
        objects.put("a new object", SewnFields::new);
        objects.put("a busy object", ErrorSentences::busy);
        objects.put("a faulty object", ErrorSentences::faulty);
        objects.put("a crammed object", ErrorSentences::crammed);
        return objects;
    }

    // ---- CHANGES

    private static void whatIsUndone() {
        Map<String, ToIntFunction<SewnFields>> changes = new LinkedHashMap<>();
        changes.put("tells()", x -> x.tells());
        changes.put("paints(0, 0, 1, 1, 3)", x -> x.paints(0, 0, 1, 1, 3));
        changes.put("ways(2, 0)", x -> x.ways(2, 0));
        changes.put("ranks(1, 0)", x -> x.ranks(1, 0));
        changes.put("mosts(5)", x -> x.mosts(5));
        changes.put("pulls(0)", x -> x.pulls(0));
        changes.forEach((name, change) -> {
            SewnFields x = busy();
            String before = look(x) + settings(busy());
            int kept = x.count(8);
            Check.due(name + " is no error", change.applyAsInt(x) >= 0 ? 1 : 0, 1);
            Check.due("count(8) after " + name, x.count(8), kept + 1);
            Check.due("undo() of " + name, x.undo(), kept);
            Check.same("the cloth after undo() of " + name, look(x) + settings(x), before);
        });
        // also a text that tells the cloth as it is
        SewnFields same = cloth("row 1;");
        types(same, "row 1;");
        Check.due("tells()", same.tells(), 1);
        Check.due("count(8)", same.count(8), 2);
        // nothing else is a change
        SewnFields x = busy();
        x.clear();
        x.type(' ');
        x.sees(0, 0, 0);
        x.forget();
        x.keep(1);
        x.which(0);
        x.cell(0, 0, 0);
        x.field(0, 3);
        x.sewn(0, 0, 3);
        x.row(0, 0, 0, 0);
        x.part(0, 0, 0, 3);
        x.order(0);
        x.count(0);
        Check.due("count(8)", x.count(8), 3);
    }

    private static void errorsAreNoChanges() {
        SewnFields x = faulty();
        x.back(0);
        Check.due("tells()", x.tells(), -10 - 11);
        Check.due("paints()", x.paints(0, 0, 0, 0, 2), STATE);
        Check.due("paints()", x.paints(0, 0, 0, 0, 4), BAD);
        Check.due("ways()", x.ways(3, 1), STATE);
        Check.due("ways()", x.ways(3, 2), BAD);
        Check.due("ranks()", x.ranks(1, 5), STATE);
        Check.due("ranks()", x.ranks(1, 10), BAD);
        Check.due("mosts()", x.mosts(3), STATE);
        Check.due("mosts()", x.mosts(6), BAD);
        Check.due("pulls()", x.pulls(2), STATE);
        Check.due("pulls()", x.pulls(3), BAD);
        Check.due("count(8)", x.count(8), 0);
        Check.due("undo()", x.undo(), STATE);
        // they push nothing out, either
        SewnFields six = cloth("row 2;");
        for (int rank = 1; rank <= 5; rank++) {
            six.ranks(1, rank);
        }
        Check.due("ranks()", six.ranks(1, 5), STATE);
        Check.due("mosts()", six.mosts(9), BAD);
        for (int n = 5; n >= 0; n--) {
            Check.due("undo()", six.undo(), n);
        }
        Check.due("fields of the cloth at first", six.count(2), 0);
    }

    private static void latestSix() {
        for (int changes = 0; changes <= 20; changes++) {
            SewnFields x = new SewnFields();
            for (int i = 1; i <= changes; i++) {
                x.paints(0, 0, 0, 0, i % 4);
                Check.due("count(8)", x.count(8), Math.min(i, 6));
            }
            int kept = Math.min(changes, 6);
            for (int i = 1; i <= kept; i++) {
                Check.due("undo() " + i + " of " + changes, x.undo(), kept - i);
                Check.due("the colour", x.cell(0, 0, 0), (changes - i) % 4);
            }
            Check.due("undo() after " + changes, x.undo(), STATE);
            Check.due("the colour", x.cell(0, 0, 0), (changes - kept) % 4);
        }
        // what was undone makes room, and is not kept
        SewnFields x = new SewnFields();
        for (int i = 1; i <= 7; i++) {
            x.paints(0, 0, 0, 0, i % 4);
        }
        x.undo();
        x.undo();
        Check.due("paints()", x.paints(0, 0, 0, 0, 3), 1);
        Check.due("count(8)", x.count(8), 5);
        int[] colours = {1, 0, 3, 2, 1};
        for (int i = 0; i < 5; i++) {
            Check.due("undo()", x.undo(), 4 - i);
            Check.due("the colour", x.cell(0, 0, 0), colours[i]);
        }
        Check.due("undo()", x.undo(), STATE);
    }

    private static void twoSnapshots() {
        SewnFields x = cloth("row 1;");
        Check.due("keep(0)", x.keep(0), 1);
        x.paints(0, 0, 0, 0, 2);
        Check.due("keep(1)", x.keep(1), 1);
        x.paints(0, 0, 0, 0, 3);
        Check.due("keep(2)", x.keep(2), BAD);
        for (int i = 0; i < 3; i++) {
            Check.due("back(0)", x.back(0), 1);
            Check.due("its colour", x.cell(0, 0, 0), 1);
            Check.due("back(1)", x.back(1), 1);
            Check.due("its colour", x.cell(0, 0, 0), 2);
        }
        Check.due("back(2)", x.back(2), BAD);
        // one of them alone
        SewnFields one = cloth("row 1;");
        one.keep(1);
        Check.due("back(0)", one.back(0), STATE);
        Check.due("back(1)", one.back(1), 1);
    }

    // ---- ERRORS

    private static void nothingThrows() {
        int[] tries = {MIN, -2, -1, 0, 1, 2, 3, 7, 8, 47, 100, MAX};
        objects().forEach((name, maker) -> {
            try {
                new Calls(maker, tries).all();
            } catch (RuntimeException | Error e) {
                Check.tell("a call of " + name + " throws " + e);
            }
        });
    }

    /** Calls every method with all of some arguments, on an object that is made anew before it is used up. */
    private static final class Calls {
        private final Supplier<SewnFields> maker;
        private final int[] tries;
        private SewnFields x;
        private int calls;

        Calls(Supplier<SewnFields> maker, int[] tries) {
            this.maker = maker;
            this.tries = tries;
        }

        private SewnFields next() {
            if (calls % 100 == 0) {
                x = maker.get();
            }
            calls++;
            return x;
        }

        void all() {
            for (int a : tries) {
                next().type(a);
                next().mosts(a);
                next().pulls(a);
                next().order(a);
                next().which(a);
                next().keep(a);
                next().back(a);
                next().count(a);
                next().clear();
                next().tells();
                next().undo();
                next().forget();
                for (int b : tries) {
                    two(a, b);
                }
            }
        }

        private void two(int a, int b) {
            next().ways(a, b);
            next().ranks(a, b);
            next().field(a, b);
            next().paints(0, 0, a, b, 1);
            next().paints(a, b, a, b, 2);
            next().paints(a, 0, b, 0, 3);
            next().paints(0, a, 0, b, 0);
            for (int c : tries) {
                next().cell(a, b, c);
                next().sewn(a, b, c);
                next().sees(a, b, c);
                for (int d : tries) {
                    next().row(a, b, c, d);
                    next().part(a, b, c, d);
                }
            }
        }
    }

    private static void orderOfErrors() {
        SewnFields crammed = crammed();
        // BAD before FULL
        dueBad("type() with a full text", crammed::type, 0, 255);
        dueBad("sees(way, 0, 0) with six observations", n -> crammed.sees(n, 0, 0), 0, 1);
        dueBad("sees(0, what, 0) with six observations", n -> crammed.sees(0, n, 0), 0, 3);
        dueBad("sees(0, 0, n) with six observations", n -> crammed.sees(0, 0, n), 0, 99);
        Check.due("order(-2) of 48 fields", crammed.order(-2), BAD);
        Check.due("order(MIN) of 48 fields", crammed.order(MIN), BAD);
        // FULL without BAD
        Check.due("type(0)", crammed.type(0), FULL);
        Check.due("sees(0, 0, 0)", crammed.sees(0, 0, 0), FULL);
        Check.due("order(-1)", crammed.order(-1), FULL);
        // BAD before STATE: no cell has another colour, the direction of no colour is another one, and so on
        SewnFields x = new SewnFields();
        Check.due("paints(0, 0, 1, 0, 0)", x.paints(0, 0, 1, 0, 0), BAD);
        Check.due("paints(0, 0, 0, 1, 0)", x.paints(0, 0, 0, 1, 0), BAD);
        Check.due("paints(1, 0, 0, 0, 0)", x.paints(1, 0, 0, 0, 0), BAD);
        Check.due("paints(0, 1, 0, 0, 0)", x.paints(0, 1, 0, 0, 0), BAD);
        Check.due("paints(0, 0, 0, 0, 0)", x.paints(0, 0, 0, 0, 0), STATE);
        SewnFields bare = cloth("row 00;row 00;");
        Check.due("paints(1, 0, 0, 1, 0)", bare.paints(1, 0, 0, 1, 0), BAD);
        Check.due("paints(0, 1, 1, 0, 0)", bare.paints(0, 1, 1, 0, 0), BAD);
        dueBad("ways(C, 0)", n -> x.ways(n, 0), 1, 3);
        dueBad("ranks(C, 0)", n -> x.ranks(n, 0), 1, 3);
        dueBad("back() without a snapshot", x::back, 0, 1);
        Check.due("back(0) without a snapshot", x.back(0), STATE);
    }

    private static void noneComesLast() {
        SewnFields none = new SewnFields();
        Check.due("order(-2) of no fields", none.order(-2), BAD);
        Check.due("order(-1) of no fields", none.order(-1), NONE);
        Check.due("which(2) of no fields", none.which(2), BAD);
        Check.due("cell(0, 0, 2) of a bare cell", none.cell(0, 0, 2), BAD);
        Check.due("cell(1, 0, 1)", none.cell(1, 0, 1), BAD);
        Check.due("row(0, 0, 9, 0) of no field", none.row(0, 0, 9, 0), BAD);
        Check.due("part(0, 0, 9, 0) of no field", none.part(0, 0, 9, 0), BAD);
        SewnFields x = cloth("row 12;");
        Check.due("row(2, 0, 9, 0)", x.row(2, 0, 9, 0), BAD);
        Check.due("row(0, 2, 9, 0)", x.row(0, 2, 9, 0), BAD);
        Check.due("row(0, 0, 9, 4)", x.row(0, 0, 9, 4), BAD);
        Check.due("row(0, 0, 9, 3)", x.row(0, 0, 9, 3), NONE);
        Check.due("part(2, 0, 9, 0)", x.part(2, 0, 9, 0), BAD);
        Check.due("part(0, 2, 9, 0)", x.part(0, 2, 9, 0), BAD);
        Check.due("part(0, 0, 9, 4)", x.part(0, 0, 9, 4), BAD);
        Check.due("part(0, 0, 9, 3)", x.part(0, 0, 9, 3), NONE);
        Check.due("part(0, 0, 0, 4), the last part", x.part(0, 0, 0, 4), BAD);
        Check.due("order(48) of 48 fields", cloth(CHECKED).order(48), FULL);
        Check.due("order(MAX) of 48 fields", cloth(CHECKED).order(MAX), FULL);
    }

    private static void bad() {
        SewnFields x = cloth("row 123;row 111;");
        dueBad("type(letter)", x::type, 0, 255);
        dueBad("paints(x, ..)", n -> x.paints(n, 0, 2, 1, 1), 0, 2);
        dueBad("paints(.., y, ..)", n -> x.paints(0, n, 2, 1, 1), 0, 1);
        dueBad("paints(.., x2, ..)", n -> x.paints(0, 0, n, 1, 1), 0, 2);
        dueBad("paints(.., y2, ..)", n -> x.paints(0, 0, 2, n, 1), 0, 1);
        dueBad("paints(.., colour)", n -> x.paints(0, 0, 2, 1, n), 0, 3);
        dueBad("ways(colour, 1)", n -> x.ways(n, 1), 1, 3);
        dueBad("ways(1, way)", n -> x.ways(1, n), 0, 1);
        dueBad("ranks(colour, 1)", n -> x.ranks(n, 1), 1, 3);
        dueBad("ranks(1, rank)", n -> x.ranks(1, n), 0, 9);
        dueBad("mosts(n)", x::mosts, 1, 5);
        dueBad("pulls(n)", x::pulls, 0, 2);
        dueBad("cell(x, 0, 0)", n -> x.cell(n, 0, 0), 0, 2);
        dueBad("cell(0, y, 0)", n -> x.cell(0, n, 0), 0, 1);
        dueBad("cell(0, 0, what)", n -> x.cell(0, 0, n), 0, 1);
        dueBad("field(f, 0)", n -> x.field(n, 0), 0, 2);
        dueBad("field(0, what)", n -> x.field(0, n), 0, 7);
        dueBad("sewn(f, 0, 0)", n -> x.sewn(n, 0, 0), 0, 2);
        dueBad("sewn(0, way, 0)", n -> x.sewn(0, n, 0), 0, 1);
        dueBad("sewn(0, 0, what)", n -> x.sewn(0, 0, n), 0, 3);
        dueBad("row(f, 0, 0, 0)", n -> x.row(n, 0, 0, 0), 0, 2);
        dueBad("row(0, way, 0, 0)", n -> x.row(0, n, 0, 0), 0, 1);
        dueBad("row(0, 0, r, 0)", n -> x.row(0, 0, n, 0), 0, MAX);
        dueBad("row(0, 0, 0, what)", n -> x.row(0, 0, 0, n), 0, 3);
        dueBad("part(f, 0, 0, 0)", n -> x.part(n, 0, 0, 0), 0, 2);
        dueBad("part(0, way, 0, 0)", n -> x.part(0, n, 0, 0), 0, 1);
        dueBad("part(0, 0, p, 0)", n -> x.part(0, 0, n, 0), 0, MAX);
        dueBad("part(0, 0, 0, what)", n -> x.part(0, 0, 0, n), 0, 3);
        dueBad("order(k)", x::order, -1, MAX);
        badOfTheRest();
    }

    private static void badOfTheRest() {
        SewnFields x = cloth("row 123;row 111;");
        dueBad("sees(way, 0, 0)", n -> x.sees(n, 0, 0), 0, 1);
        dueBad("sees(0, what, 0)", n -> x.sees(0, n, 0), 0, 3);
        dueBad("sees(0, 0, n)", n -> x.sees(0, 0, n), 0, 99);
        dueBad("which(what)", x::which, 0, 1);
        dueBad("keep(image)", x::keep, 0, 1);
        dueBad("back(image)", x::back, 0, 1);
        dueBad("count(what)", x::count, 0, 8);
        // what exists is another thing after each change
        Check.due("cell(2, 1, 0)", x.cell(2, 1, 0), 1);
        Check.due("field(2, 0)", x.field(2, 0), 3);
        x.paints(1, 0, 2, 0, 1);
        Check.due("field(1, 0)", x.field(1, 0), BAD);
        types(x, "row 12;");
        x.tells();
        Check.due("cell(2, 0, 0)", x.cell(2, 0, 0), BAD);
        Check.due("cell(0, 1, 0)", x.cell(0, 1, 0), BAD);
        Check.due("field(1, 0)", x.field(1, 0), 2);
        x.undo();
        Check.due("cell(2, 1, 0)", x.cell(2, 1, 0), 1);
        Check.due("field(1, 0)", x.field(1, 0), BAD);
    }

    private static void stateAndFull() {
        SewnFields x = new SewnFields();
        Check.due("paints()", x.paints(0, 0, 0, 0, 0), STATE);
        Check.due("ways()", x.ways(1, 0), STATE);
        Check.due("ranks()", x.ranks(1, 0), STATE);
        Check.due("mosts()", x.mosts(3), STATE);
        Check.due("pulls()", x.pulls(0), STATE);
        Check.due("undo()", x.undo(), STATE);
        Check.due("back()", x.back(0), STATE);
        SewnFields full = crammed();
        Check.due("type()", full.type('a'), FULL);
        Check.due("sees()", full.sees(0, 0, 0), FULL);
        Check.due("order()", full.order(0), FULL);
        // no other method is full then
        Check.due("which(0)", full.which(0), 48);
        Check.due("keep(0)", full.keep(0), 48);
        Check.due("field(47, 1)", full.field(47, 1), 1);
        Check.due("sewn(47, 1, 0)", full.sewn(47, 1, 0), 1);
        Check.due("row(47, 1, 0, 0)", full.row(47, 1, 0, 0), 47);
        Check.due("part(47, 1, 0, 0)", full.part(47, 1, 0, 0), 1);
        Check.due("cell(7, 5, 1)", full.cell(7, 5, 1), 47);
        Check.due("count(2)", full.count(2), 48);
        Check.due("paints()", full.paints(0, 0, 0, 0, 2), 1);
    }

    /** Every call that is refused in one of the objects above. */
    private static Map<String, ToIntFunction<SewnFields>> refusedCalls() {
        Map<String, ToIntFunction<SewnFields>> calls = new LinkedHashMap<>();
        for (int n : new int[] {MIN, -2, -1, 10, 100, 256, MAX}) {
            calls.put("type(" + n + ")", x -> x.type(n));
            calls.put("paints(0, 0, 0, 0, " + n + ")", x -> x.paints(0, 0, 0, 0, n));
            calls.put("paints(0, 0, " + n + ", 0, 1)", x -> x.paints(0, 0, n, 0, 1));
            calls.put("paints(0, 0, 0, " + n + ", 1)", x -> x.paints(0, 0, 0, n, 1));
            calls.put("paints(" + n + ", 0, 0, 0, 1)", x -> x.paints(n, 0, 0, 0, 1));
            calls.put("paints(0, " + n + ", 0, 0, 1)", x -> x.paints(0, n, 0, 0, 1));
            calls.put("ways(" + n + ", 1)", x -> x.ways(n, 1));
            calls.put("ways(1, " + n + ")", x -> x.ways(1, n));
            calls.put("ranks(" + n + ", 1)", x -> x.ranks(n, 1));
            calls.put("ranks(1, " + n + ")", x -> x.ranks(1, n));
            calls.put("mosts(" + n + ")", x -> x.mosts(n));
            calls.put("pulls(" + n + ")", x -> x.pulls(n));
            calls.put("cell(0, 0, " + n + ")", x -> x.cell(0, 0, n));
            calls.put("field(0, " + n + ")", x -> x.field(0, n));
            calls.put("sewn(0, 0, " + n + ")", x -> x.sewn(0, 0, n));
            calls.put("row(0, 0, " + n + ", 0)", x -> x.row(0, 0, n, 0));
            calls.put("part(0, 0, " + n + ", 0)", x -> x.part(0, 0, n, 0));
            calls.put("order(" + n + ")", x -> x.order(n));
            calls.put("sees(" + n + ", 0, 0)", x -> x.sees(n, 0, 0));
            calls.put("sees(0, " + n + ", 0)", x -> x.sees(0, n, 0));
            calls.put("sees(0, 0, " + n + ")", x -> x.sees(0, 0, n));
            calls.put("which(" + n + ")", x -> x.which(n));
            calls.put("keep(" + n + ")", x -> x.keep(n));
            calls.put("back(" + n + ")", x -> x.back(n));
            calls.put("count(" + n + ")", x -> x.count(n));
        }
        calls.put("tells()", x -> x.tells());
        calls.put("undo()", x -> x.undo());
        calls.put("back(0)", x -> x.back(0));
        calls.put("back(1)", x -> x.back(1));
        calls.put("paints(0, 0, 0, 0, 0)", x -> x.paints(0, 0, 0, 0, 0));
        calls.put("paints(0, 0, 0, 0, 1)", x -> x.paints(0, 0, 0, 0, 1));
        calls.put("paints(0, 0, 0, 0, 2)", x -> x.paints(0, 0, 0, 0, 2));
        for (int n = 0; n <= 5; n++) {
            int value = n;
            calls.put("ways(3, " + n + ")", x -> x.ways(3, value));
            calls.put("ranks(1, " + n + ")", x -> x.ranks(1, value));
            calls.put("mosts(" + n + ")", x -> x.mosts(value));
            calls.put("pulls(" + n + ")", x -> x.pulls(value));
            calls.put("sees(0, 0, " + n + ")", x -> x.sees(0, 0, value));
            calls.put("type(" + n + ")", x -> x.type(value));
        }
        return calls;
    }

    private static void errorsChangeNothing() {
        Map<String, Set<Integer>> errors = new HashMap<>();
        objects().forEach((name, maker) -> refusedCalls().forEach((call, run) -> {
            int answer = run.applyAsInt(maker.get());
            if (answer < 0) {
                errors.computeIfAbsent(call.replaceAll("\\(.*", ""), k -> new HashSet<>()).add(Math.max(answer, -10));
                dueAlike(name + " after " + call, () -> {
                    SewnFields x = maker.get();
                    Check.due(call, run.applyAsInt(x), answer);
                    return x;
                }, maker);
            }
        }));
        // each method has been refused in each of its manners
        dueErrors(errors, BAD, "type paints ways ranks mosts pulls cell field sewn row part order sees which keep back count");
        dueErrors(errors, STATE, "paints ways ranks mosts pulls undo back");
        dueErrors(errors, FULL, "type order sees");
        dueErrors(errors, NONE, "row part order");
        dueErrors(errors, -10, "tells");
    }

    private static void dueErrors(Map<String, Set<Integer>> errors, int error, String methods) {
        List<String> found = new ArrayList<>();
        for (String method : methods.split(" ")) {
            if (errors.getOrDefault(method, Set.of()).contains(error)) {
                found.add(method);
            }
        }
        Check.same("the methods that answered " + error, String.join(" ", found), methods);
    }

    private static void constants() {
        Check.due("BAD", SewnFields.BAD, -1);
        Check.due("STATE", SewnFields.STATE, -2);
        Check.due("FULL", SewnFields.FULL, -3);
        Check.due("NONE", SewnFields.NONE, -9);
    }
}
