/** Runs of 512 calls that look random but are always the same, each answer compared with that of the Oracle. */
final class RandomRuns {
    private static final int CALLS = 512;

    private long seed;
    private SewnFields x;
    private Oracle o;
    private int calls;
    private final StringBuilder run = new StringBuilder();

    private RandomRuns(long seed) {
        this.seed = seed * 0x9E3779B97F4A7C15L + 0x1234567;
    }

    static void all(int runs) {
        for (int i = 1; i <= runs; i++) {
            if (!new RandomRuns(i).agrees(i)) {
                return;
            }
        }
    }

    private int pick(int n) {
        seed = seed * 6364136223846793005L + 1442695040888963407L;
        return (int) ((seed >>> 33) % n);
    }

    /** A number that is nearly always from low to high. */
    private int near(int low, int high) {
        switch (pick(40)) {
            case 0:
                return low - 1;
            case 1:
                return high + 1;
            case 2:
                int[] far = {Integer.MIN_VALUE, Integer.MAX_VALUE, -9, 1000};
                return far[pick(far.length)];
            default:
                return low + pick(high - low + 1);
        }
    }

    private boolean agrees(int number) {
        x = new SewnFields();
        o = new Oracle();
        calls = 0;
        int style = pick(4);
        while (calls < CALLS) {
            boolean right = style > 0 && calls == 0 || pick(25) == 0 ? typeCloth(style) : call(style);
            if (!right) {
                String all = run.toString();
                Check.tell("run " + number + ", call " + calls + ": " + all.substring(Math.max(0, all.length() - 3000)));
                return false;
            }
        }
        return true;
    }

    private boolean same(String call, int got, int due) {
        calls++;
        run.append(call).append(" -> ").append(got);
        if (got != due) {
            run.append(" but due is ").append(due);
            return false;
        }
        run.append('\n');
        return true;
    }

    private boolean typeCloth(int style) {
        String text = clothText(style);
        if (pick(4) == 0) {
            text = spoil(text);
        }
        if (pick(3) > 0 && !same("clear()", x.clear(), o.clear())) {
            return false;
        }
        for (int i = 0; i < text.length(); i++) {
            int letter = text.charAt(i);
            if (!same("type(" + letter + ")", x.type(letter), o.type(letter))) {
                return false;
            }
        }
        return same("tells()", x.tells(), o.tells());
    }

    private String clothText(int style) {
        StringBuilder s = new StringBuilder();
        int w = pick(3) == 0 ? 1 + pick(8) : 5 + pick(4);
        int h = pick(3) == 0 ? 1 + pick(6) : 4 + pick(3);
        int common = pick(4);
        for (int i = 0; i < h; i++) {
            s.append("row").append(blanks());
            for (int j = 0; j < w; j++) {
                s.append(pick(style + 2) > 0 ? common : pick(4));
            }
            s.append(blanks()).append(";");
            if (pick(6) == 0) {
                s.append(blanks()).append(setting());
            }
        }
        for (int n = pick(4); n > 0 && s.length() < 100; n--) {
            s.append(setting());
        }
        return s.toString();
    }

    private String setting() {
        switch (pick(4)) {
            case 0:
                return "way" + blanks() + (1 + pick(3)) + " " + pick(2) + blanks() + ";";
            case 1:
                return "rank " + (1 + pick(3)) + blanks() + " " + pick(10) + ";" + blanks();
            case 2:
                return "most" + blanks() + (1 + pick(5)) + ";";
            default:
                return "pull" + blanks() + pick(3) + ";";
        }
    }

    private String blanks() {
        return pick(8) == 0 ? " ".repeat(1 + pick(2)) : "";
    }

    private String spoil(String text) {
        StringBuilder s = new StringBuilder(text);
        for (int n = 1 + pick(2); n > 0 && s.length() > 0; n--) {
            int i = pick(s.length());
            String letters = "0123456789 ;;rowaykmstpulnR-\t" + (char) pick(256);
            switch (pick(5)) {
                case 0:
                    s.deleteCharAt(i);
                    break;
                case 1:
                    s.setCharAt(i, letters.charAt(pick(letters.length())));
                    break;
                case 2:
                    s.insert(i, letters.charAt(pick(letters.length())));
                    break;
                case 3:
                    s.append("row ").append(pick(2) == 0 ? "1" : "12;");
                    break;
                default:
                    s.setLength(i);
                    break;
            }
        }
        return s.toString();
    }

    private boolean call(int style) {
        int w = o.count(0);
        int h = o.count(1);
        int fields = Math.max(o.count(2), 1);
        int a = near(0, w - 1);
        int b = near(0, h - 1);
        int f = near(0, fields - 1);
        int way = near(0, 1);
        int what = near(0, 3);
        int c = near(0, 3);
        int n = near(0, 12);
        switch (pick(32)) {
            case 0:
                n = pick(20) == 0 ? near(0, 255) : " ;row12".charAt(pick(7));
                return same("type(" + n + ")", x.type(n), o.type(n));
            case 1:
                return pick(4) > 0 || same("clear()", x.clear(), o.clear());
            case 2:
                return pick(4) > 0 || same("tells()", x.tells(), o.tells());
            case 3:
            case 4:
            case 5:
                int a2 = pick(10) == 0 ? near(0, w - 1) : Math.min(a + pick(3), near(0, w - 1));
                int b2 = pick(10) == 0 ? near(0, h - 1) : Math.min(b + pick(3), near(0, h - 1));
                return same("paints(" + a + ", " + b + ", " + a2 + ", " + b2 + ", " + c + ")",
                        x.paints(a, b, a2, b2, c), o.paints(a, b, a2, b2, c));
            case 6:
                c = near(1, 3);
                return same("ways(" + c + ", " + way + ")", x.ways(c, way), o.ways(c, way));
            case 7:
                c = near(1, 3);
                n = pick(2) == 0 ? near(0, 9) : pick(3);
                return same("ranks(" + c + ", " + n + ")", x.ranks(c, n), o.ranks(c, n));
            case 8:
                n = near(1, 5);
                return same("mosts(" + n + ")", x.mosts(n), o.mosts(n));
            case 9:
                n = near(0, 2);
                return same("pulls(" + n + ")", x.pulls(n), o.pulls(n));
            case 10:
                return same("undo()", x.undo(), o.undo());
            case 11:
                what = near(0, 1);
                return same("cell(" + a + ", " + b + ", " + what + ")", x.cell(a, b, what), o.cell(a, b, what));
            case 12:
            case 13:
            case 14:
            case 15:
            case 16:
                what = near(0, 7);
                return same("field(" + f + ", " + what + ")", x.field(f, what), o.field(f, what));
            case 17:
            case 18:
                return same("sewn(" + f + ", " + way + ", " + what + ")", x.sewn(f, way, what), o.sewn(f, way, what));
            case 19:
            case 20:
            case 21:
                return same("row(" + f + ", " + way + ", " + n + ", " + what + ")",
                        x.row(f, way, n, what), o.row(f, way, n, what));
            case 22:
            case 23:
            case 24:
                n = near(0, pick(2) == 0 ? 2 : 6);
                return same("part(" + f + ", " + way + ", " + n + ", " + what + ")",
                        x.part(f, way, n, what), o.part(f, way, n, what));
            case 25:
            case 26:
            case 27:
                n = near(-1, 10);
                return same("order(" + n + ")", x.order(n), o.order(n));
            case 28:
                n = pick(2) == 0 ? o.sewn(f, way, what) : near(0, 99);
                return same("sees(" + way + ", " + what + ", " + n + ")", x.sees(way, what, n), o.sees(way, what, n));
            case 29:
                what = near(0, 1);
                return pick(8) > 0 ? same("which(" + what + ")", x.which(what), o.which(what))
                        : same("forget()", x.forget(), o.forget());
            case 30:
                n = near(0, 1);
                return pick(3) > 0 ? same("keep(" + n + ")", x.keep(n), o.keep(n))
                        : same("back(" + n + ")", x.back(n), o.back(n));
            default:
                what = near(0, 8);
                return same("count(" + what + ")", x.count(what), o.count(what));
        }
    }
}
