import java.util.Arrays;
import java.util.List;
import java.util.function.Function;
import java.util.function.Supplier;
import java.util.function.ToIntFunction;

/** What the tests with answers worked out by hand share: they make cloths, look at them, and compare answers. */
abstract class ClothTests {
    static final int BAD = -1, STATE = -2, FULL = -3, NONE = -9;
    static final int MIN = Integer.MIN_VALUE, MAX = Integer.MAX_VALUE;
    /** The cloth with the most fields: 48, each of one cell. */
    static final String CHECKED = "row 12121212;row 21212121;".repeat(3);

    /** Probes, each of which uses an object up to write down something that cannot be seen without a change. */
    private static final List<Function<SewnFields, String>> PROBES = List.of(
            x -> state(x) + settings(x),
            x -> x.tells() + state(x) + settings(x),
            x -> x.clear() + state(x),
            x -> x.forget() + state(x),
            x -> x.back(0) + state(x) + settings(x),
            x -> x.back(1) + state(x) + settings(x),
            x -> undone(x, 1),
            x -> undone(x, 2),
            x -> undone(x, 3),
            x -> undone(x, 4),
            x -> undone(x, 5),
            x -> undone(x, 6),
            x -> undone(x, 7));

    static void types(SewnFields x, String text) {
        for (int i = 0; i < text.length(); i++) {
            x.type(text.charAt(i));
        }
    }

    /** Makes an object with a text that has not been read. */
    static SewnFields typed(String text) {
        SewnFields x = new SewnFields();
        types(x, text);
        return x;
    }

    /** Makes an object with the cloth of a text. */
    static SewnFields cloth(String text) {
        SewnFields x = typed(text);
        int items = x.tells();
        if (items < 1) {
            Check.tell("\"" + text + "\" is refused with " + items);
        }
        return x;
    }

    static void fault(String text, int place) {
        SewnFields x = typed(text);
        Check.due("tells() of \"" + text + "\"", x.tells(), -10 - place);
        Check.same("the object after tells() of \"" + text + "\"", state(x), state(typed(text)));
    }

    static void told(String text, int items) {
        SewnFields x = typed(text);
        Check.due("tells() of \"" + text + "\"", x.tells(), items);
        Check.due("count(7) after it", x.count(7), 0);
    }

    /** Writes down the colours of all cells, with a / before every row. */
    static String cells(SewnFields x) {
        int w = x.count(0);
        int h = x.count(1);
        StringBuilder s = new StringBuilder();
        for (int y = 0; y < h; y++) {
            s.append('/');
            for (int i = 0; i < w; i++) {
                s.append(x.cell(i, y, 0));
            }
        }
        return s.toString();
    }

    /** Writes down what can be seen of a cloth, without its directions and ranks where they have no effect. */
    static String look(SewnFields x) {
        StringBuilder s = new StringBuilder(" ").append(cells(x)).append(' ').append(x.order(-1));
        for (int what = 0; what <= 5; what++) {
            s.append(' ').append(x.count(what));
        }
        int fields = x.count(2);
        for (int f = 0; f < fields; f++) {
            s.append(' ').append(x.field(f, 3)).append(',').append(x.field(f, 4)).append(',').append(x.order(f));
        }
        return s.toString();
    }

    /** Writes down all that can be seen of an object without a change. */
    static String state(SewnFields x) {
        return look(x) + " |" + x.count(6) + " " + x.count(7) + " " + x.count(8) + " " + x.which(0) + " " + x.which(1);
    }

    /** Writes down directions, ranks, stitch length and pull, and makes directions and ranks 0. */
    static String settings(SewnFields x) {
        StringBuilder s = new StringBuilder(" ").append(x.count(3)).append(x.count(4));
        for (int colour = 1; colour <= 3; colour++) {
            s.append(' ').append(x.ways(colour, 0)).append(',').append(x.ranks(colour, 0));
        }
        return s.toString();
    }

    private static String undone(SewnFields x, int times) {
        StringBuilder s = new StringBuilder();
        for (int i = 0; i < times; i++) {
            s.append(x.undo()).append(' ');
        }
        return s.append(state(x)).append(settings(x)).toString();
    }

    /** Compares what two makers make in all that can be found out of it. */
    static void dueAlike(String what, Supplier<SewnFields> one, Supplier<SewnFields> other) {
        for (int i = 0; i < PROBES.size(); i++) {
            Function<SewnFields, String> probe = PROBES.get(i);
            Check.same(what + ", by probe " + i, probe.apply(one.get()), probe.apply(other.get()));
        }
    }

    static void dueCells(SewnFields x, String colours) {
        Check.same("the cloth", cells(x), colours);
    }

    /** Compares one property of the numbers 0, 1 and so on; behind the last one there is due what is told by after. */
    static void dueEach(String call, ToIntFunction<Integer> got, int after, int... due) {
        for (int i = 0; i < due.length; i++) {
            Check.due(call + " of " + i, got.applyAsInt(i), due[i]);
        }
        Check.due(call + " of " + due.length, got.applyAsInt(due.length), after);
    }

    /** Numbers out of a range: beside it, the farthest ones, and ones that would fall into it if they lost high bits. */
    static int[] outside(int low, int high) {
        int[] tries = {low - 1, high + 1, low - 2, high + 2, MIN, MIN + 1, MAX, MAX - 1, -low, -high, NONE, low - 256,
            high + 256, low - 65536, low + 65536, high + 65536, low ^ MIN, high ^ MIN, (low + 1) << 24};
        return Arrays.stream(tries).filter(n -> n < low || n > high).distinct().toArray();
    }

    /** Compares the answers of a call for numbers out of a range with BAD. */
    static void dueBad(String call, ToIntFunction<Integer> got, int low, int high) {
        for (int n : outside(low, high)) {
            Check.due(call + " of " + n, got.applyAsInt(n), BAD);
        }
    }
}
