import java.util.ArrayDeque;
import java.util.ArrayList;
import java.util.Arrays;
import java.util.Deque;
import java.util.HashMap;
import java.util.HashSet;
import java.util.LinkedHashSet;
import java.util.List;
import java.util.Map;
import java.util.Set;
import java.util.TreeSet;
import java.util.regex.Matcher;
import java.util.regex.Pattern;

/**
 * The document once more, written for plainness alone and by other means than SewnFields: sets of cells, relaxation
 * instead of a queue, and an order of sewing that is searched among all orders.
 */
final class Oracle {
    static final int BAD = -1, STATE = -2, FULL = -3, NONE = -9;
    private static final Pattern TOKEN = Pattern.compile("[a-z]+|[0-9]+|[^ ]", Pattern.DOTALL);

    /** A cloth; it is never changed. */
    record Cloth(String[] rows, int[] ways, int[] ranks, int most, int pull) {
        int width() {
            return rows[0].length();
        }

        int height() {
            return rows.length;
        }

        int colour(int cell) {
            return rows[cell / width()].charAt(cell % width()) - '0';
        }

        int cells() {
            return width() * height();
        }

        List<Integer> around(int cell) {
            int x = cell % width();
            int y = cell / width();
            List<Integer> found = new ArrayList<>();
            if (y > 0) {
                found.add(cell - width());
            }
            if (x > 0) {
                found.add(cell - 1);
            }
            if (x + 1 < width()) {
                found.add(cell + 1);
            }
            if (y + 1 < height()) {
                found.add(cell + width());
            }
            return found;
        }
    }

    /** A field's rows, each the list of its cells, its parts, each the list of its rows' numbers, and hidden ways. */
    record Plan(List<List<Integer>> rows, List<List<Integer>> parts, List<Integer> starts, List<Integer> ends,
                List<Integer> hidden) {
    }

    private Cloth cloth = new Cloth(new String[] {"0"}, new int[4], new int[4], 3, 0);
    private String text = "";
    private final Deque<Cloth> changes = new ArrayDeque<>();
    private final Cloth[] images = new Cloth[2];
    private final List<int[]> observations = new ArrayList<>();
    private List<TreeSet<Integer>> fields;
    private final Map<Integer, Plan> plans = new HashMap<>();
    private List<Integer> order;

    private void become(Cloth next) {
        cloth = next;
        fields = null;
        order = null;
        plans.clear();
    }

    private void change(Cloth next) {
        changes.addLast(cloth);
        if (changes.size() > 6) {
            changes.removeFirst();
        }
        become(next);
    }

    private static boolean out(int n, int low, int high) {
        return n < low || n > high;
    }

    int type(int letter) {
        if (out(letter, 0, 255)) {
            return BAD;
        }
        if (text.length() == 120) {
            return FULL;
        }
        text += (char) letter;
        return text.length();
    }

    int clear() {
        int n = text.length();
        text = "";
        return n;
    }

    /** Says which tokens may follow, as patterns of what has been read so far. */
    int tells() {
        List<String> rows = new ArrayList<>();
        int[] ways = new int[4];
        int[] ranks = new int[4];
        int most = 3;
        int pull = 0;
        int items = 0;
        List<String> item = new ArrayList<>();
        Matcher m = TOKEN.matcher(text);
        while (m.find()) {
            String token = m.group();
            if (!mayFollow(item, token, rows)) {
                return -10 - m.start();
            }
            item.add(token);
            if (!token.equals(";")) {
                continue;
            }
            items++;
            switch (item.get(0)) {
                case "row" -> rows.add(item.get(1));
                case "way" -> ways[Integer.parseInt(item.get(1))] = Integer.parseInt(item.get(2));
                case "rank" -> ranks[Integer.parseInt(item.get(1))] = Integer.parseInt(item.get(2));
                case "most" -> most = Integer.parseInt(item.get(1));
                default -> pull = Integer.parseInt(item.get(1));
            }
            item.clear();
        }
        if (!item.isEmpty() || rows.isEmpty()) {
            return -10 - text.length();
        }
        change(new Cloth(rows.toArray(new String[0]), ways, ranks, most, pull));
        text = "";
        return items;
    }

    private static boolean mayFollow(List<String> item, String token, List<String> rows) {
        String pattern = switch (String.join(" ", item).replaceAll("[0-9]+", "N")) {
            case "" -> rows.size() < 6 ? "row|way|rank|most|pull" : "way|rank|most|pull";
            case "row" -> rows.isEmpty() ? "[0-3]{1,8}" : "[0-3]{" + rows.get(0).length() + "}";
            case "way", "rank" -> "[1-3]";
            case "way N" -> "[01]";
            case "rank N" -> "[0-9]";
            case "most" -> "[1-5]";
            case "pull" -> "[0-2]";
            default -> ";";
        };
        return token.matches(pattern);
    }

    int paints(int x, int y, int x2, int y2, int colour) {
        int w = cloth.width();
        int h = cloth.height();
        if (out(x, 0, w - 1) || out(x2, x, w - 1) || out(y, 0, h - 1) || out(y2, y, h - 1) || out(colour, 0, 3)) {
            return BAD;
        }
        String[] rows = cloth.rows.clone();
        int others = 0;
        for (int j = y; j <= y2; j++) {
            char[] line = rows[j].toCharArray();
            for (int i = x; i <= x2; i++) {
                others += line[i] == '0' + colour ? 0 : 1;
                line[i] = (char) ('0' + colour);
            }
            rows[j] = new String(line);
        }
        if (others == 0) {
            return STATE;
        }
        change(new Cloth(rows, cloth.ways, cloth.ranks, cloth.most, cloth.pull));
        return others;
    }

    int ways(int colour, int way) {
        if (out(colour, 1, 3) || out(way, 0, 1)) {
            return BAD;
        }
        int before = cloth.ways[colour];
        if (before == way) {
            return STATE;
        }
        int[] ways = cloth.ways.clone();
        ways[colour] = way;
        change(new Cloth(cloth.rows, ways, cloth.ranks, cloth.most, cloth.pull));
        return before;
    }

    int ranks(int colour, int rank) {
        if (out(colour, 1, 3) || out(rank, 0, 9)) {
            return BAD;
        }
        int before = cloth.ranks[colour];
        if (before == rank) {
            return STATE;
        }
        int[] ranks = cloth.ranks.clone();
        ranks[colour] = rank;
        change(new Cloth(cloth.rows, cloth.ways, ranks, cloth.most, cloth.pull));
        return before;
    }

    int mosts(int n) {
        if (out(n, 1, 5)) {
            return BAD;
        }
        int before = cloth.most;
        if (before == n) {
            return STATE;
        }
        change(new Cloth(cloth.rows, cloth.ways, cloth.ranks, n, cloth.pull));
        return before;
    }

    int pulls(int n) {
        if (out(n, 0, 2)) {
            return BAD;
        }
        int before = cloth.pull;
        if (before == n) {
            return STATE;
        }
        change(new Cloth(cloth.rows, cloth.ways, cloth.ranks, cloth.most, n));
        return before;
    }

    int undo() {
        if (changes.isEmpty()) {
            return STATE;
        }
        become(changes.removeLast());
        return changes.size();
    }

    /** The fields: every cell is merged with its like neighbours until nothing changes. */
    List<TreeSet<Integer>> fields() {
        if (fields != null) {
            return fields;
        }
        int[] mark = new int[cloth.cells()];
        Arrays.setAll(mark, c -> c);
        boolean again = true;
        while (again) {
            again = false;
            for (int c = 0; c < mark.length; c++) {
                for (int d : cloth.around(c)) {
                    if (cloth.colour(c) == cloth.colour(d) && mark[d] < mark[c]) {
                        mark[c] = mark[d];
                        again = true;
                    }
                }
            }
        }
        fields = new ArrayList<>();
        for (int c = 0; c < mark.length; c++) {
            if (mark[c] == c && cloth.colour(c) != 0) {
                TreeSet<Integer> field = new TreeSet<>();
                for (int d = 0; d < mark.length; d++) {
                    if (mark[d] == c) {
                        field.add(d);
                    }
                }
                fields.add(field);
            }
        }
        return fields;
    }

    int cell(int x, int y, int what) {
        if (out(x, 0, cloth.width() - 1) || out(y, 0, cloth.height() - 1) || out(what, 0, 1)) {
            return BAD;
        }
        int cell = cloth.width() * y + x;
        if (what == 0) {
            return cloth.colour(cell);
        }
        for (int f = 0; f < fields().size(); f++) {
            if (fields().get(f).contains(cell)) {
                return f;
            }
        }
        return NONE;
    }

    /** Counts the steps within a field by relaxing all its cells again and again. */
    private int steps(Set<Integer> field, int from, int to) {
        Map<Integer, Integer> steps = new HashMap<>();
        steps.put(from, 0);
        boolean again = true;
        while (again) {
            again = false;
            for (int c : field) {
                for (int d : cloth.around(c)) {
                    if (steps.containsKey(d) && field.contains(d)
                            && steps.getOrDefault(c, 1000) > steps.get(d) + 1) {
                        steps.put(c, steps.get(d) + 1);
                        again = true;
                    }
                }
            }
        }
        return steps.get(to);
    }

    private Plan plan(int f, int way) {
        return plans.computeIfAbsent(2 * f + way, k -> makePlan(fields().get(f), way));
    }

    private Plan makePlan(Set<Integer> field, int way) {
        int w = cloth.width();
        int step = way == 0 ? 1 : w;
        List<List<Integer>> rows = new ArrayList<>();
        List<Integer> cells = new ArrayList<>(field);
        if (way == 1) {
            cells.sort((a, b) -> a % w != b % w ? a % w - b % w : a - b);
        }
        for (int c : cells) {
            List<Integer> last = rows.isEmpty() ? List.of() : rows.get(rows.size() - 1);
            boolean goesOn = !last.isEmpty() && last.get(last.size() - 1) == c - step && line(c, way) == line(c - step, way);
            if (goesOn) {
                last.add(c);
            } else {
                rows.add(new ArrayList<>(List.of(c)));
            }
        }
        List<List<Integer>> nexts = new ArrayList<>();
        int[] nextTo = new int[rows.size()];
        for (List<Integer> a : rows) {
            List<Integer> found = new ArrayList<>();
            for (int b = 0; b < rows.size(); b++) {
                if (isNext(a, rows.get(b), way)) {
                    found.add(b);
                    nextTo[b]++;
                }
            }
            nexts.add(found);
        }
        int[] follower = new int[rows.size()];
        Set<Integer> followed = new HashSet<>();
        for (int r = 0; r < rows.size(); r++) {
            follower[r] = nexts.get(r).size() == 1 && nextTo[nexts.get(r).get(0)] == 1 ? nexts.get(r).get(0) : -1;
            followed.add(follower[r]);
        }
        List<List<Integer>> parts = new ArrayList<>();
        List<Integer> starts = new ArrayList<>();
        List<Integer> ends = new ArrayList<>();
        for (int r = 0; r < rows.size(); r++) {
            if (followed.contains(r)) {
                continue;
            }
            List<Integer> part = new ArrayList<>();
            boolean forwards = true;
            int end = -1;
            for (int s = r; s != -1; s = follower[s]) {
                part.add(s);
                List<Integer> row = rows.get(s);
                end = forwards ? row.get(row.size() - 1) : row.get(0);
                forwards = !forwards;
            }
            parts.add(part);
            starts.add(rows.get(r).get(0));
            ends.add(end);
        }
        List<Integer> hidden = new ArrayList<>();
        for (int p = 0; p + 1 < parts.size(); p++) {
            hidden.add(steps(field, ends.get(p), starts.get(p + 1)));
        }
        return new Plan(rows, parts, starts, ends, hidden);
    }

    private int line(int cell, int way) {
        return way == 0 ? cell / cloth.width() : cell % cloth.width();
    }

    private boolean isNext(List<Integer> a, List<Integer> b, int way) {
        if (line(b.get(0), way) != line(a.get(0), way) + 1) {
            return false;
        }
        int across = way == 0 ? cloth.width() : 1;
        for (int c : a) {
            if (b.contains(c + across)) {
                return true;
            }
        }
        return false;
    }

    private int stitches(List<Integer> row) {
        return (int) Math.ceil(row.size() / (double) cloth.most);
    }

    private int figure(int f, int way, int what) {
        Plan plan = plan(f, way);
        return switch (what) {
            case 0 -> plan.rows.size();
            case 1 -> plan.parts.size();
            case 2 -> plan.rows.stream().mapToInt(this::stitches).sum();
            default -> plan.hidden.stream().mapToInt(n -> n).sum();
        };
    }

    private int better(int f) {
        int[] along = {figure(f, 0, 1), figure(f, 0, 2), figure(f, 0, 3)};
        int[] across = {figure(f, 1, 1), figure(f, 1, 2), figure(f, 1, 3)};
        return Arrays.compare(along, across) <= 0 ? 0 : 1;
    }

    private Set<Integer> covered(int f) {
        int w = cloth.width();
        int way = cloth.ways[cloth.colour(fields().get(f).first())];
        Set<Integer> cells = new TreeSet<>(fields().get(f));
        for (List<Integer> row : plan(f, way).rows) {
            for (int c : row) {
                for (int n = -cloth.pull; n <= cloth.pull; n++) {
                    int x = c % w + (way == 0 ? n : 0);
                    int y = c / w + (way == 0 ? 0 : n);
                    if (x >= 0 && x < w && y >= 0 && y < cloth.height()) {
                        cells.add(y * w + x);
                    }
                }
            }
        }
        return cells;
    }

    private Set<Integer> touching(int f) {
        Set<Integer> found = new HashSet<>();
        for (int g = 0; g < fields().size(); g++) {
            for (int c : fields().get(g)) {
                for (int d : cloth.around(c)) {
                    if (g != f && fields().get(f).contains(d)) {
                        found.add(g);
                    }
                }
            }
        }
        return found;
    }

    int field(int f, int what) {
        if (out(f, 0, fields().size() - 1) || out(what, 0, 7)) {
            return BAD;
        }
        TreeSet<Integer> field = fields().get(f);
        int colour = cloth.colour(field.first());
        return switch (what) {
            case 0 -> colour;
            case 1 -> field.size();
            case 2 -> field.first();
            case 3 -> better(f);
            case 4 -> covered(f).size();
            case 5 -> (int) covered(f).stream().filter(c -> cloth.colour(c) != colour && cloth.colour(c) != 0).count();
            case 6 -> (int) covered(f).stream().filter(c -> cloth.colour(c) == 0).count();
            default -> touching(f).size();
        };
    }

    int sewn(int f, int way, int what) {
        if (out(f, 0, fields().size() - 1) || out(way, 0, 1) || out(what, 0, 3)) {
            return BAD;
        }
        return figure(f, way, what);
    }

    int row(int f, int way, int r, int what) {
        if (out(f, 0, fields().size() - 1) || out(way, 0, 1) || r < 0 || out(what, 0, 3)) {
            return BAD;
        }
        Plan plan = plan(f, way);
        if (r >= plan.rows.size()) {
            return NONE;
        }
        List<Integer> row = plan.rows.get(r);
        if (what == 3) {
            for (int p = 0; p < plan.parts.size(); p++) {
                if (plan.parts.get(p).contains(r)) {
                    return p;
                }
            }
        }
        return what == 0 ? row.get(0) : what == 1 ? row.size() : stitches(row);
    }

    int part(int f, int way, int p, int what) {
        if (out(f, 0, fields().size() - 1) || out(way, 0, 1) || p < 0 || out(what, 0, 3)) {
            return BAD;
        }
        Plan plan = plan(f, way);
        if (p >= plan.parts.size()) {
            return NONE;
        }
        return switch (what) {
            case 0 -> plan.parts.get(p).size();
            case 1 -> plan.starts.get(p);
            case 2 -> plan.ends.get(p);
            default -> p < plan.hidden.size() ? plan.hidden.get(p) : NONE;
        };
    }

    int order(int k) {
        if (k < -1) {
            return BAD;
        }
        int n = fields().size();
        if (n > 10) {
            return FULL;
        }
        if (n == 0) {
            return NONE;
        }
        if (order == null) {
            order = bestOrder();
        }
        if (k == -1) {
            return changesIn(order);
        }
        return k < n ? order.get(k) : NONE;
    }

    private int changesIn(List<Integer> fieldsInOrder) {
        int n = 0;
        for (int i = 1; i < fieldsInOrder.size(); i++) {
            n += colourOf(fieldsInOrder.get(i)) == colourOf(fieldsInOrder.get(i - 1)) ? 0 : 1;
        }
        return n;
    }

    private int colourOf(int f) {
        return cloth.colour(fields().get(f).first());
    }

    /** Finds the fewest changes for every set of fields that is left, and then takes the smallest field that keeps to it. */
    private List<Integer> bestOrder() {
        int n = fields().size();
        int[] before = new int[n];
        for (int f = 0; f < n; f++) {
            for (int g : touching(f)) {
                if (cloth.ranks[colourOf(g)] < cloth.ranks[colourOf(f)]) {
                    before[f] |= 1 << g;
                }
            }
        }
        int all = (1 << n) - 1;
        int[][] fewest = new int[all + 1][4];
        for (int done = all - 1; done >= 0; done--) {
            for (int last = 0; last <= 3; last++) {
                int best = 1000;
                for (int f = 0; f < n; f++) {
                    best = Math.min(best, withNext(fewest, before, done, last, f));
                }
                fewest[done][last] = best;
            }
        }
        List<Integer> found = new ArrayList<>();
        int done = 0;
        int last = 0;
        while (done != all) {
            int f = 0;
            while (withNext(fewest, before, done, last, f) != fewest[done][last]) {
                f++;
            }
            found.add(f);
            done |= 1 << f;
            last = colourOf(f);
        }
        return found;
    }

    private int withNext(int[][] fewest, int[] before, int done, int last, int f) {
        if ((done >> f & 1) == 1 || (before[f] & ~done) != 0) {
            return 1000;
        }
        int colour = colourOf(f);
        return fewest[done | 1 << f][colour] + (last == 0 || last == colour ? 0 : 1);
    }

    int sees(int way, int what, int n) {
        if (out(way, 0, 1) || out(what, 0, 3) || out(n, 0, 99)) {
            return BAD;
        }
        if (observations.size() == 6) {
            return FULL;
        }
        observations.add(new int[] {way, what, n});
        return observations.size();
    }

    int forget() {
        int n = observations.size();
        observations.clear();
        return n;
    }

    int which(int what) {
        if (out(what, 0, 1)) {
            return BAD;
        }
        Set<Integer> right = new LinkedHashSet<>();
        for (int f = 0; f < fields().size(); f++) {
            right.add(f);
        }
        for (int[] o : observations) {
            right.removeIf(f -> figure(f, o[0], o[1]) != o[2]);
        }
        return what == 0 ? right.size() : right.isEmpty() ? NONE : right.iterator().next();
    }

    int keep(int image) {
        if (out(image, 0, 1)) {
            return BAD;
        }
        images[image] = cloth;
        return fields().size();
    }

    int back(int image) {
        if (out(image, 0, 1)) {
            return BAD;
        }
        if (images[image] == null) {
            return STATE;
        }
        become(images[image]);
        changes.clear();
        return fields().size();
    }

    int count(int what) {
        return switch (what) {
            case 0 -> cloth.width();
            case 1 -> cloth.height();
            case 2 -> fields().size();
            case 3 -> cloth.most;
            case 4 -> cloth.pull;
            case 5 -> fields().stream().mapToInt(Set::size).sum();
            case 6 -> observations.size();
            case 7 -> text.length();
            case 8 -> changes.size();
            default -> BAD;
        };
    }
}
