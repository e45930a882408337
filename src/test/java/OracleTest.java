import java.util.ArrayList;
import java.util.HashMap;
import java.util.List;
import java.util.Map;
import java.util.TreeSet;
import java.util.regex.Matcher;
import java.util.regex.Pattern;

/** Runs of calls, each answered by the class and by a plain second reading of the document that lists all tables. */
public final class OracleTest {
    private static final int RUNS = 2500;
    private static final int CALLS = 300;
    private static int wrong;

    public static void main(String[] args) {
        Map<String, Integer> answered = new HashMap<>();
        for (int run = 0; run < RUNS && wrong < 20; run++) new Run(run, answered).go();
        for (int run = 0; run < 12 && wrong < 20; run++) bigTables(run);
        checkAllWereAnswered(answered);
        if (wrong > 0) {
            System.out.println(wrong + " answers are wrong");
            System.exit(1);
        }
    }

    /** A run of the oracle is worth little if a call is always refused. */
    private static void checkAllWereAnswered(Map<String, Integer> answered) {
        String[] calls = {"feed", "matter", "of", "sum", "many", "table", "drawn", "may", "open", "ends", "inAll",
            "sure", "next", "opens", "hold", "by", "none", "claim", "must", "line", "wrong", "second", "split",
            "splits", "changed", "parted", "weight", "likeliest", "weighs", "chance", "knowing", "act", "trace",
            "keep", "row", "put", "element", "shift", "taken", "boxes", "count"};
        for (String call : calls) {
            if (answered.getOrDefault(call, 0) >= 100) continue;
            wrong++;
            System.out.println(call + " was answered only " + answered.getOrDefault(call, 0) + " times");
        }
    }

    // ---- boxes with many tables: each one's number is counted anew from the table

    private static void bigTables(int run) {
        Dice dice = new Dice(7000 + run);
        int g = 2 + run % 3;
        int c = 2 + run / 3 % 2;
        int most = g == 4 ? 30 : 99;
        int[] sums = Text.evenSums(dice, g, c, most);
        VotedFor x = new VotedFor();
        feed(x, Text.of(g, c, List.of(sums)));
        if (x.matter() != 0) fail("big: no matter for " + Text.of(g, c, List.of(sums)));
        Rank rank = new Rank(g, c, sums);
        long all = rank.all();
        check("big many", x.many(0), all);
        for (int t = 0; t < 12; t++) {
            long i = t == 0 ? 0 : t == 1 ? all - 1 : Math.floorMod(dice.bits(), all);
            int[] cells = new int[g * c];
            for (int p = 0; p < g * c; p++) cells[p] = x.table(0, i, 10 * (p / c) + p % c);
            check("big table of " + Text.of(g, c, List.of(sums)), rank.of(cells), i);
        }
        for (int t = 0; t < 5; t++) {
            long seed = dice.bits();
            long drawn = ((seed * 6364136223846793005L + 1442695040888963407L) >>> 20) % all;
            int cell = 10 * dice.upTo(g - 1) + dice.upTo(c - 1);
            check("big drawn", x.drawn(0, seed, cell), x.table(0, drawn, cell));
        }
        check("big table behind the last", x.table(0, all, 0), -1);
        check("big table below 0", x.table(0, -1, 0), -1);
    }

    private static void feed(VotedFor x, String text) {
        for (int i = 0; i < text.length(); i++) x.feed(1, text.charAt(i));
    }

    private static void check(String what, long got, long due) {
        if (got != due) fail(what + ": " + got + ", due is " + due);
    }

    private static void fail(String what) {
        wrong++;
        System.out.println(what);
    }

    /** Numbers that are the same in each run. */
    private static final class Dice {
        private long state;

        Dice(long seed) {
            state = seed;
            state = bits() * 31 + 12345;
        }

        long bits() {
            state += 0x9E3779B97F4A7C15L;
            long z = state;
            z = (z ^ z >>> 30) * 0xBF58476D1CE4E5B9L;
            z = (z ^ z >>> 27) * 0x94D049BB133111EBL;
            return z ^ z >>> 31;
        }

        int upTo(int most) {
            return (int) Math.floorMod(bits(), most + 1L);
        }

        int from(int least, int most) {
            return least + upTo(most - least);
        }

        boolean oneIn(int n) {
            return upTo(n - 1) == 0;
        }
    }

    private static final class Text {
        static int[] evenSums(Dice dice, int g, int c, int most) {
            int[] sums = new int[g + c];
            int[] cells = new int[g * c];
            for (int p = 0; p < g * c; p++) {
                int v = dice.upTo(Math.max(1, most / Math.max(g, c)));
                if (dice.oneIn(4)) v = 0;
                cells[p] = v;
                sums[p / c] += v;
                sums[g + p % c] += v;
            }
            return sums;
        }

        static String of(int g, int c, List<int[]> boxes) {
            StringBuilder text = new StringBuilder("g" + g + "c" + c);
            for (int[] sums : boxes) {
                for (int i = 0; i < sums.length; i++) text.append(i == 0 ? ';' : i == g ? '/' : ',').append(sums[i]);
            }
            return text.toString();
        }
    }

    /** Counts the tables ahead of a table. */
    private static final class Rank {
        private final int g;
        private final int c;
        private final int[] sums;
        private final Map<String, Long> kept = new HashMap<>();

        Rank(int g, int c, int[] sums) {
            this.g = g;
            this.c = c;
            this.sums = sums;
        }

        long all() {
            return from(0, sums[0], choices());
        }

        private int[] choices() {
            int[] choices = new int[c];
            System.arraycopy(sums, g, choices, 0, c);
            return choices;
        }

        long of(int[] cells) {
            long ahead = 0;
            int[] left = choices();
            int rowLeft = 0;
            for (int p = 0; p < g * c; p++) {
                if (p % c == 0) rowLeft = sums[p / c];
                for (int v = 0; v < cells[p]; v++) ahead += with(p, v, rowLeft, left);
                rowLeft -= cells[p];
                left[p % c] -= cells[p];
                if (cells[p] < 0 || left[p % c] < 0 || rowLeft < 0 || (p % c == c - 1 && rowLeft != 0)) return -99;
            }
            for (int k : left) {
                if (k != 0) return -98;
            }
            return ahead;
        }

        private long with(int p, int v, int rowLeft, int[] left) {
            if (v > rowLeft || v > left[p % c] || (p % c == c - 1 && v != rowLeft)) return 0;
            left[p % c] -= v;
            int nextRow = p % c == c - 1 ? (p / c + 1 < g ? sums[p / c + 1] : 0) : rowLeft - v;
            long all = from(p + 1, nextRow, left);
            left[p % c] += v;
            return all;
        }

        private long from(int p, int rowLeft, int[] left) {
            if (p == g * c) {
                for (int k : left) {
                    if (k != 0) return 0;
                }
                return 1;
            }
            String key = p + ":" + rowLeft + ":" + java.util.Arrays.toString(left);
            Long known = kept.get(key);
            if (known != null) return known;
            long all = 0;
            for (int v = 0; v <= Math.min(rowLeft, left[p % c]); v++) all += with(p, v, rowLeft, left);
            kept.put(key, all);
            return all;
        }
    }

    // ---- the second reading of the document

    private static final class Street {
        final int[] byGroup;
        final int[] byChoice;
        final int n;
        final List<int[]> tables = new ArrayList<>();
        int[] later;
        int[] seen;

        Street(int g, int c, int[] sums) {
            byGroup = java.util.Arrays.copyOfRange(sums, 0, g);
            byChoice = java.util.Arrays.copyOfRange(sums, g, g + c);
            int all = 0;
            for (int r : byGroup) all += r;
            n = all;
            list(new int[g * c], 0);
        }

        private void list(int[] cells, int p) {
            int c = byChoice.length;
            if (p == cells.length) {
                for (int k = 0; k < c; k++) {
                    int column = 0;
                    for (int g = 0; g < byGroup.length; g++) column += cells[g * c + k];
                    if (column != byChoice[k]) return;
                }
                tables.add(cells.clone());
                return;
            }
            int row = byGroup[p / c];
            for (int k = 0; k < p % c; k++) row -= cells[p - p % c + k];
            int column = byChoice[p % c];
            for (int g = 0; g < p / c; g++) column -= cells[g * c + p % c];
            for (int v = p % c == c - 1 ? row : 0; v <= Math.min(row, column); v++) {
                cells[p] = v;
                list(cells, p + 1);
            }
            cells[p] = 0;
        }

        int least(int p) {
            if (seen != null) return seen[p];
            int least = Integer.MAX_VALUE;
            for (int[] t : tables) least = Math.min(least, t[p]);
            return least;
        }

        int most(int p) {
            if (seen != null) return seen[p];
            int most = -1;
            for (int[] t : tables) most = Math.max(most, t[p]);
            return most;
        }
    }

    private record Thing(int sort, int p, int box, int other, int v) {
        boolean keeps(int here, int there) {
            if (sort == 0) return here <= v;
            if (sort == 1) return here >= v;
            if (sort == 2) return here - there <= v && there - here <= v;
            return here <= there + v;
        }
    }

    private static final class Told {
        final int g;
        final int c;
        final List<Street> streets = new ArrayList<>();
        final List<Thing> things = new ArrayList<>();
        final int[] weights;

        Told(int g, int c) {
            this.g = g;
            this.c = c;
            weights = new int[g * c];
        }

        boolean come(int[] sums) {
            int both = 0;
            for (int i = 0; i < g + c; i++) {
                if (sums[i] < 0 || sums[i] > 99) return false;
                both += i < g ? sums[i] : -sums[i];
            }
            if (both != 0 || streets.size() == 12) return false;
            streets.add(new Street(g, c, sums));
            return true;
        }
    }

    /** Least and most in all by a set; null: none. Throws Big if there are too many. */
    private static final class Rows {
        static final class Big extends RuntimeException {
            private static final long serialVersionUID = 1;
        }

        private final Told told;
        private final int set;
        private final int p;
        private int[] found;

        Rows(Told told, int set, int p) {
            this.told = told;
            this.set = set;
            this.p = p;
        }

        int[] ends() {
            long rows = 1;
            TreeSet<Integer> named = new TreeSet<>();
            for (int h = 0; h < told.things.size(); h++) {
                if ((set & 1 << h) == 0) continue;
                Thing thing = told.things.get(h);
                named.add(thing.box);
                if (thing.sort >= 2) named.add(thing.other);
            }
            List<List<int[]>> choice = new ArrayList<>();
            int least = 0;
            int most = 0;
            for (int b = 0; b < told.streets.size(); b++) {
                Street s = told.streets.get(b);
                if (named.contains(b)) {
                    choice.add(s.seen != null ? List.of(s.seen) : s.tables);
                    rows *= choice.get(b).size();
                    if (rows > 20000) throw new Big();
                } else {
                    choice.add(null);
                    least += s.least(p);
                    most += s.most(p);
                }
            }
            go(choice, new ArrayList<>(), least, most);
            return found;
        }

        private void go(List<List<int[]>> choice, List<int[]> row, int least, int most) {
            if (row.size() == choice.size()) {
                for (int h = 0; h < told.things.size(); h++) {
                    if ((set & 1 << h) == 0) continue;
                    Thing t = told.things.get(h);
                    if (!t.keeps(row.get(t.box)[t.p], t.sort >= 2 ? row.get(t.other)[t.p] : 0)) return;
                }
                if (found == null) found = new int[] {least, most};
                found[0] = Math.min(found[0], least);
                found[1] = Math.max(found[1], most);
                return;
            }
            List<int[]> here = choice.get(row.size());
            if (here == null) {
                row.add(null);
                go(choice, row, least, most);
                row.remove(row.size() - 1);
                return;
            }
            for (int[] t : here) {
                row.add(t);
                go(choice, row, least + t[p], most + t[p]);
                row.remove(row.size() - 1);
            }
        }
    }

    private interface Lets {
        int n();

        void log(int body);

        default int lets(int x) {
            log(1);
            return x + n();
        }
    }

    private interface Tells {
        void log(int body);

        int narrows(int x);

        int proves(int x);

        default int tells(int x) {
            log(2);
            return narrows(x) - proves(1);
        }
    }

    private static class Knower implements Lets, Tells {
        private final int n;
        private final List<Integer> trace;

        Knower(int n, List<Integer> trace) {
            this.n = n;
            this.trace = trace;
        }

        @Override public int n() {
            return n;
        }

        @Override public void log(int body) {
            trace.add(body);
        }

        @Override public int narrows(int x) {
            log(10);
            return lets(x) * 2;
        }

        @Override public int proves(int x) {
            log(11);
            return x ^ n;
        }
    }

    private static class EndsKnower extends Knower {
        EndsKnower(int n, List<Integer> trace) {
            super(n, trace);
        }

        @Override public int lets(int x) {
            log(20);
            return super.lets(x) - 1;
        }
    }

    private static class HeldKnower extends EndsKnower {
        HeldKnower(int n, List<Integer> trace) {
            super(n, trace);
        }

        @Override public int proves(int x) {
            log(30);
            return super.proves(x) * 3;
        }

        @Override public int narrows(int x) {
            log(31);
            return super.narrows(x) + lets(2);
        }
    }

    private static final class LikeKnower extends HeldKnower {
        LikeKnower(int n, List<Integer> trace) {
            super(n, trace);
        }

        @Override public int tells(int x) {
            log(40);
            return super.tells(x) ^ 5;
        }
    }

    private static final class NestedKnower extends EndsKnower {
        NestedKnower(int n, List<Integer> trace) {
            super(n, trace);
        }

        @Override public int narrows(int x) {
            log(50);
            return -super.narrows(x);
        }
    }

    private static final class TwiceKnower extends EndsKnower {
        TwiceKnower(int n, List<Integer> trace) {
            super(n, trace);
        }

        @Override public int lets(int x) {
            log(60);
            return super.lets(x + 1) * 2;
        }
    }

    private static final class ToldKnower extends Knower {
        ToldKnower(int n, List<Integer> trace) {
            super(n, trace);
        }

        @Override public int proves(int x) {
            log(70);
            return super.proves(x) - narrows(1);
        }

        @Override public int tells(int x) {
            log(71);
            return super.tells(x) * 2;
        }
    }

    /** All answers by the document, by the longest way. */
    private static final class Model {
        private static final long VOID = -2000000000;
        private static final Pattern GRAMMAR = grammar();

        final List<Told> matters = new ArrayList<>();
        final List<Knower> knowers = new ArrayList<>();
        final List<Integer> kinds = new ArrayList<>();
        final List<Integer> trace = new ArrayList<>();
        final Object[] shelf = new Object[6];
        String tape = "";

        private static Pattern grammar() {
            StringBuilder all = new StringBuilder();
            for (int g = 2; g <= 4; g++) {
                for (int c = 2; c <= 3; c++) {
                    String box = ";" + "N,".repeat(g - 1) + "N/" + "N,".repeat(c - 1) + "N";
                    all.append(all.length() > 0 ? "|" : "").append("g" + g + "c" + c + "(" + box + "){0,12}");
                }
            }
            return Pattern.compile(all.toString().replace("N", "[0-9]{1,2}"));
        }

        long call(String name, long[] a) {
            switch (name) {
                case "feed": return feed((int) a[0], (int) a[1]);
                case "matter": return matter();
                case "of": return of(told(a[0]), a[1]);
                case "row": return row(a[0], a[1], a[2]);
                case "keep": return keep(a[0], a[1]);
                case "put": return put(a[0], a[1], a[2]);
                case "element": return element(a[0], a[1]);
                case "shift": return shift(a);
                case "taken": return taken(a[0], a[1]);
                case "boxes": return boxes(told(a[0]), a);
                case "count": return count(a[0]);
                case "knowing": return knowing(a[0]);
                case "act": return act(a[0], a[1], (int) a[2]);
                case "trace": return a[0] >= 0 && a[0] < Math.min(24, trace.size()) ? trace.get((int) a[0]) : -1;
                default: return name.matches("inAll|sure|next|opens|hold|by|none|claim|must|line|wrong|weight")
                    ? ofMatter(name, told(a[0]), a) : ofBox(name, a);
            }
        }

        private Told told(long m) {
            return m >= 0 && m < matters.size() ? matters.get((int) m) : null;
        }

        private static int p(Told m, long cell) {
            if (m == null) return -1;
            for (int g = 0; g < m.g; g++) {
                for (int k = 0; k < m.c; k++) {
                    if (cell == 10 * g + k) return g * m.c + k;
                }
            }
            return -1;
        }

        private long feed(int n, int v) {
            if (n < 1 || n > 4) return -1;
            if (tape.length() + n > 200) return -3;
            for (int i = 0; i < n; i++) {
                tape += (char) (v & 255);
                v >>= 8;
            }
            return tape.length();
        }

        private long matter() {
            if (matters.size() == 4) return -3;
            String text = tape;
            tape = "";
            for (int i = 1; i <= text.length(); i++) {
                Matcher m = GRAMMAR.matcher(text.substring(0, i));
                if (!m.matches() && !m.hitEnd()) return -100 - (i - 1);
            }
            if (!GRAMMAR.matcher(text).matches()) return -100 - text.length();
            Told told = new Told(text.charAt(1) - '0', text.charAt(3) - '0');
            String[] parts = text.split(";");
            for (int b = 1; b < parts.length; b++) {
                String[] numbers = parts[b].split("[,/]");
                int[] sums = new int[numbers.length];
                for (int i = 0; i < sums.length; i++) sums[i] = Integer.parseInt(numbers[i]);
                if (!told.come(sums)) return -400 - (b - 1);
            }
            matters.add(told);
            return matters.size() - 1;
        }

        private static long of(Told m, long what) {
            if (m == null || what < 0 || what > 3) return -1;
            return new long[] {m.g, m.c, m.streets.size(), m.things.size()}[(int) what];
        }

        // ---- of a box

        private long ofBox(String name, long[] a) {
            if (name.equals("weighs")) return weighs(a);
            Told m = a[0] < 0 ? null : told(a[0] / 100);
            if (m == null || a[0] % 100 >= m.streets.size()) return -1;
            Street s = m.streets.get((int) (a[0] % 100));
            switch (name) {
                case "sum": return sum(m, s, a[1]);
                case "many": return s.tables.size();
                case "table": return table(s, p(m, a[2]), a[1]);
                case "drawn": return drawn(s, p(m, a[2]), a[1]);
                case "may": return may(m, s, a[1], a[2]);
                case "open": return open(m, s, a[1], a[2]);
                case "ends": return p(m, a[1]) < 0 || a[2] < 0 || a[2] > 1 ? -1
                    : a[2] == 0 ? s.least(p(m, a[1])) : s.most(p(m, a[1]));
                case "second": return second(m, s, a[1]);
                case "split": return split(m, s, a[1], a[2]);
                case "splits": return splits(m, s, a[1]);
                case "changed": return a[1] < 0 || a[1] >= m.streets.size() ? -1
                    : changed(s.byChoice.clone(), m.streets.get((int) a[1]).byChoice.clone());
                case "parted": return parted(m, s, a);
                case "likeliest": return p(m, a[1]) < 0 ? -1 : s.tables.size() > 20000 ? -4
                    : likeliest(m, s)[p(m, a[1])];
                case "chance": return chance(s, p(m, a[1]), a[2]);
                default: throw new IllegalArgumentException(name);
            }
        }

        private static long sum(Told m, Street s, long what) {
            if (what == 20) return s.n;
            if (what >= 0 && what < m.g) return s.byGroup[(int) what];
            return what >= 10 && what < 10 + m.c ? s.byChoice[(int) what - 10] : -1;
        }

        private static long table(Street s, int p, long i) {
            return p < 0 || i < 0 || i >= s.tables.size() ? -1 : s.tables.get((int) i)[p];
        }

        private static long drawn(Street s, int p, long seed) {
            long z = (seed * 6364136223846793005L + 1442695040888963407L) >>> 20;
            return p < 0 ? -1 : s.tables.get((int) (z % s.tables.size()))[p];
        }

        private long may(Told m, Street s, long on, long i) {
            if (on < 0 || on > 5) return -1;
            Object held = shelf[(int) on];
            if (held == null) return -11;
            if (!(held instanceof int[])) return -12;
            int[] row = (int[]) held;
            int size = m.g * m.c;
            if (i < 0 || i + size > row.length) return -13;
            for (int p = 0; p < size; p++) {
                long inRow = 0;
                long inColumn = 0;
                for (int q = 0; q < size; q++) {
                    if (q / m.c == p / m.c) inRow += row[(int) i + q];
                    if (q % m.c == p % m.c) inColumn += row[(int) i + q];
                }
                boolean bad = row[(int) i + p] < 0;
                if (p % m.c == m.c - 1 && inRow != s.byGroup[p / m.c]) bad = true;
                if (p / m.c == m.g - 1 && inColumn != s.byChoice[p % m.c]) bad = true;
                if (bad) return p / m.c * 10 + p % m.c;
            }
            return -2;
        }

        private long open(Told m, Street s, long on, long i) {
            long may = may(m, s, on, i);
            if (may != -2) return may >= 0 ? -2 : may;
            if (s.seen != null) return -5;
            s.seen = java.util.Arrays.copyOfRange((int[]) shelf[(int) on], (int) i, (int) i + m.g * m.c);
            return 1;
        }

        private static long second(Told m, Street s, long sums) {
            if (sums < 0) return -1;
            int[] digits = new int[m.c];
            long all = 0;
            for (int k = m.c - 1; k >= 0; k--) {
                digits[k] = (int) (sums % 1000);
                sums /= 1000;
                all += digits[k];
            }
            if (sums != 0 || all != s.n) return -1;
            s.later = digits;
            return 1;
        }

        /** ENDS over all ways to fill a table of both votes. */
        private static List<int[]> twice(Street s) {
            int[] sums = new int[2 * s.byChoice.length];
            System.arraycopy(s.byChoice, 0, sums, 0, s.byChoice.length);
            System.arraycopy(s.later, 0, sums, s.byChoice.length, s.later.length);
            return new Street(s.byChoice.length, s.byChoice.length, sums).tables;
        }

        private static long split(Told m, Street s, long kl, long what) {
            if (kl < 0 || kl / 10 >= m.c || kl % 10 >= m.c || what < 0 || what > 1) return -1;
            if (s.later == null) return -5;
            int least = 999;
            int most = -1;
            for (int[] t : twice(s)) {
                int v = t[(int) (kl / 10 * m.c + kl % 10)];
                least = Math.min(least, v);
                most = Math.max(most, v);
            }
            return what == 0 ? least : most;
        }

        private static long splits(Told m, Street s, long what) {
            if (what < 0 || what > 1) return -1;
            if (s.later == null) return -5;
            int least = 999;
            int most = -1;
            for (int[] t : twice(s)) {
                int alike = 0;
                for (int k = 0; k < m.c; k++) alike += t[k * m.c + k];
                least = Math.min(least, s.n - alike);
                most = Math.max(most, s.n - alike);
            }
            return what == 0 ? least : most;
        }

        private static long changed(int[] now, int[] last) {
            while (total(now) > total(last)) takeOne(now);
            while (total(last) > total(now)) takeOne(last);
            int more = 0;
            for (int k = 0; k < now.length; k++) more += Math.max(0, now[k] - last[k]);
            return more;
        }

        private static int total(int[] sums) {
            int all = 0;
            for (int k : sums) all += k;
            return all;
        }

        private static void takeOne(int[] sums) {
            int k = sums.length - 1;
            while (sums[k] == 0) k--;
            sums[k]--;
        }

        private static long parted(Told m, Street s, long[] a) {
            int p = p(m, a[1]);
            if (p < 0 || (a[3] != 0 && a[3] != 1 && a[3] != 10 && a[3] != 11)) return -1;
            int r = s.byGroup[p / m.c];
            if (a[2] < 0 || a[2] > r) return -1;
            int part = (int) (a[3] < 10 ? a[2] : r - a[2]);
            int[] sums = {part, s.n - part, s.byChoice[p % m.c], s.n - s.byChoice[p % m.c]};
            Street two = new Street(2, 2, sums);
            return a[3] % 10 == 0 ? two.least(0) : two.most(0);
        }

        private static int weigh(Told m, int[] t) {
            int all = 0;
            for (int p = 0; p < t.length; p++) all += t[p] * m.weights[p];
            return all;
        }

        private static int[] likeliest(Told m, Street s) {
            int[] best = null;
            for (int[] t : s.tables) {
                if (best == null || weigh(m, t) > weigh(m, best)) best = t;
            }
            return best;
        }

        private long weighs(long[] a) {
            Told m = a[0] < 0 ? null : told(a[0] / 100);
            if (m == null || a[0] % 100 >= m.streets.size() || a[1] < 0 || a[1] > 1) return VOID;
            Street s = m.streets.get((int) (a[0] % 100));
            if (s.tables.size() > 20000) return -4;
            TreeSet<Integer> all = new TreeSet<>();
            for (int[] t : s.tables) all.add(weigh(m, t));
            if (a[1] == 0) return all.last();
            Integer next = all.lower(all.last());
            return next == null ? -2 : all.last() - next;
        }

        private static long chance(Street s, int p, long v) {
            if (p < 0 || v < 0 || v > 999) return -1;
            if (s.tables.size() > 20000) return -4;
            long so = 0;
            for (int[] t : s.tables) so += t[p] >= v ? 1 : 0;
            return so * 1000 / s.tables.size();
        }

        // ---- of a matter

        private long ofMatter(String name, Told m, long[] a) {
            int p = p(m, name.equals("hold") || name.equals("by") || name.equals("claim") || name.equals("must")
                ? a[2] : a.length > 1 ? a[1] : -1);
            switch (name) {
                case "inAll": return inAll(m, p, a[2]);
                case "sure": return sure(m, p);
                case "next": return p < 0 ? -1 : next(m, p, new TreeSet<>());
                case "opens": return opens(m, p, a[2]);
                case "hold": return hold(m, p, a);
                case "by": return by(m, p, a);
                case "none": return none(m, a[1]);
                case "claim": return claim(m, p, a);
                case "must": return must(m, p, a);
                case "line": return line(m, a[1]);
                case "wrong": return wrong(m, a[1]);
                default: return weight(m, p, a[2]);
            }
        }

        private static int inAll(Told m, int p, boolean most) {
            int all = 0;
            for (Street s : m.streets) all += most ? s.most(p) : s.least(p);
            return all;
        }

        private static long inAll(Told m, int p, long what) {
            if (p < 0 || what < 0 || what > 3) return VOID;
            int end = inAll(m, p, what == 1 || what == 3);
            if (what < 2) return end;
            int people = 0;
            for (Street s : m.streets) people += s.byGroup[p / m.c];
            return people == 0 ? VOID : end * 1000 / people;
        }

        private static long sure(Told m, int p) {
            if (p < 0) return -1;
            int bits = 0;
            for (int b = 0; b < m.streets.size(); b++) {
                if (m.streets.get(b).least(p) == m.streets.get(b).most(p)) bits += 1 << b;
            }
            return bits;
        }

        private static int next(Told m, int p, TreeSet<Integer> done) {
            int next = -2;
            int wide = 0;
            for (int b = 0; b < m.streets.size(); b++) {
                Street s = m.streets.get(b);
                if (s.seen != null || done.contains(b) || s.most(p) - s.least(p) <= wide) continue;
                next = b;
                wide = s.most(p) - s.least(p);
            }
            return next;
        }

        private static long opens(Told m, int p, long v) {
            if (p < 0 || v < 0 || v > 9999) return -1;
            int wide = inAll(m, p, true) - inAll(m, p, false);
            TreeSet<Integer> done = new TreeSet<>();
            while (wide > v) {
                int b = next(m, p, done);
                wide -= m.streets.get(b).most(p) - m.streets.get(b).least(p);
                done.add(b);
            }
            return done.size();
        }

        private static long hold(Told m, int p, long[] a) {
            int sort = (int) a[1];
            int box = (int) a[3] / 100;
            int other = (int) a[3] % 100;
            if (p < 0 || sort < 0 || sort > 3 || a[3] < 0 || box >= m.streets.size() || a[4] < 0 || a[4] > 999) return -1;
            if (sort >= 2 && (other >= m.streets.size() || other == box)) return -1;
            if (m.things.size() == 8) return -3;
            m.things.add(new Thing(sort, p, box, other, (int) a[4]));
            return m.things.size() - 1;
        }

        private static boolean isSet(Told m, long set) {
            return m != null && set >= 0 && set < 1 << m.things.size();
        }

        private static long by(Told m, int p, long[] a) {
            if (p < 0 || !isSet(m, a[1]) || a[3] < 0 || a[3] > 1) return -1;
            try {
                int[] ends = new Rows(m, (int) a[1], p).ends();
                return ends == null ? -2 : ends[(int) a[3]];
            } catch (Rows.Big big) {
                return -4;
            }
        }

        private static List<Integer> subsets(int set) {
            List<Integer> all = new ArrayList<>();
            for (int s = 0; s <= set; s++) {
                if ((s & set) == s) all.add(s);
            }
            all.sort((s, t) -> Integer.bitCount(s) != Integer.bitCount(t) ? Integer.bitCount(s) - Integer.bitCount(t) : s - t);
            return all;
        }

        private static long none(Told m, long set) {
            if (!isSet(m, set)) return -1;
            try {
                for (int s : subsets((int) set)) {
                    if (new Rows(m, s, 0).ends() == null) return s;
                }
                return -2;
            } catch (Rows.Big big) {
                return -4;
            }
        }

        private static long claim(Told m, int p, long[] a) {
            if (p < 0 || !isSet(m, a[1]) || a[3] < 0 || a[3] > 9999) return -1;
            try {
                int[] ends = new Rows(m, (int) a[1], p).ends();
                if (ends == null || ends[0] >= a[3]) return 2;
                return ends[1] < a[3] ? 0 : 1;
            } catch (Rows.Big big) {
                return -4;
            }
        }

        private static long must(Told m, int p, long[] a) {
            if (p < 0 || !isSet(m, a[1]) || a[3] < 0 || a[3] > 9999) return -1;
            try {
                for (int s : subsets((int) a[1])) {
                    int[] ends = new Rows(m, s, p).ends();
                    if (ends != null && ends[0] >= a[3]) return s;
                }
                return -2;
            } catch (Rows.Big big) {
                return -4;
            }
        }

        /** Null, if there is no line; else what it says. */
        private static Long says(Told m, long x) {
            long n = 0, sx = 0, sy = 0, sxx = 0, sxy = 0;
            for (Street s : m.streets) {
                if (s.n == 0) continue;
                long dx = s.byGroup[0] * 1000 / s.n;
                long dy = s.byChoice[0] * 1000 / s.n;
                n++;
                sx += dx;
                sy += dy;
                sxx += dx * dx;
                sxy += dx * dy;
            }
            java.math.BigInteger b = java.math.BigInteger.valueOf(n * sxx - sx * sx);
            if (b.signum() == 0) return null;
            java.math.BigInteger a = java.math.BigInteger.valueOf(n * sxy - sx * sy);
            java.math.BigInteger up = b.multiply(java.math.BigInteger.valueOf(sy))
                .add(a.multiply(java.math.BigInteger.valueOf(x * n - sx)));
            java.math.BigInteger down = b.multiply(java.math.BigInteger.valueOf(n));
            java.math.BigInteger[] parts = up.divideAndRemainder(down);
            return parts[0].longValue() - (parts[1].signum() < 0 ? 1 : 0);
        }

        private static long line(Told m, long x) {
            if (m == null || x < 0 || x > 1000) return VOID;
            Long says = says(m, x);
            return says == null ? VOID : says;
        }

        private static long wrong(Told m, long i) {
            if (m == null || i < -1) return -1;
            Long says = says(m, 1000);
            if (says == null) return -2;
            List<Integer> all = new ArrayList<>();
            for (int b = 0; b < m.streets.size(); b++) {
                Street s = m.streets.get(b);
                int r = s.byGroup[0];
                if (r == 0) continue;
                int low = s.least(0) * 1000 / r;
                int high = s.most(0) * 1000 / r + (s.most(0) * 1000 % r > 0 ? 1 : 0);
                if (says < low || says > high) all.add(b);
            }
            return i == -1 ? all.size() : i < all.size() ? all.get((int) i) : -1;
        }

        private static long weight(Told m, int p, long v) {
            if (p < 0 || v < -99 || v > 99) return VOID;
            int was = m.weights[p];
            m.weights[p] = (int) v;
            return was;
        }

        // ---- acts, shelves

        private long knowing(long kind) {
            if (kind < 0 || kind > 6) return -1;
            int n = knowers.size();
            if (n == 50) return -3;
            knowers.add(kind == 0 ? new Knower(n, trace) : kind == 1 ? new EndsKnower(n, trace)
                : kind == 2 ? new HeldKnower(n, trace) : kind == 3 ? new LikeKnower(n, trace)
                : kind == 4 ? new NestedKnower(n, trace) : kind == 5 ? new TwiceKnower(n, trace)
                : new ToldKnower(n, trace));
            kinds.add((int) kind);
            return n;
        }

        private long act(long who, long act, int x) {
            trace.clear();
            if (who < 0 || who >= knowers.size() || act < 0 || act > 3) return 0;
            Knower k = knowers.get((int) who);
            return act == 0 ? k.lets(x) : act == 1 ? k.narrows(x) : act == 2 ? k.proves(x) : k.tells(x);
        }

        private static int length(Object row) {
            return java.lang.reflect.Array.getLength(row);
        }

        private static boolean isRow(Object held) {
            return held != null && held.getClass().isArray();
        }

        private long keep(long on, long who) {
            if (on < 0 || on > 5 || who < -1 || who >= knowers.size()) return -1;
            shelf[(int) on] = who == -1 ? null : knowers.get((int) who);
            return 1;
        }

        private long row(long on, long sort, long n) {
            if (on < 0 || on > 5 || sort < 0 || sort > 4 || n > 60) return -1;
            if (n < 0) return -14;
            int size = (int) n;
            shelf[(int) on] = sort == 0 ? new byte[size] : sort == 1 ? new short[size] : sort == 2 ? new int[size]
                : sort == 3 ? new long[size] : (Object) new boolean[size];
            return 1;
        }

        private long put(long on, long i, long v) {
            if (on < 0 || on > 5) return -1;
            Object held = shelf[(int) on];
            if (held == null) return -11;
            if (!isRow(held)) return -12;
            if (i < 0 || i >= length(held)) return -13;
            int at = (int) i;
            if (held instanceof byte[] row) row[at] = (byte) v;
            if (held instanceof short[] row) row[at] = (short) v;
            if (held instanceof int[] row) row[at] = (int) v;
            if (held instanceof long[] row) row[at] = v;
            if (held instanceof boolean[] row) row[at] = v != 0;
            return 1;
        }

        private long element(long on, long i) {
            if (on < 0 || on > 5 || !isRow(shelf[(int) on])) return Long.MIN_VALUE;
            Object held = shelf[(int) on];
            if (i < 0 || i >= length(held)) return Long.MIN_VALUE;
            if (held instanceof boolean[] row) return row[(int) i] ? 1 : 0;
            return java.lang.reflect.Array.getLong(held, (int) i);
        }

        private long shift(long[] a) {
            if (a[0] < 0 || a[0] > 5 || a[2] < 0 || a[2] > 5) return -1;
            Object from = shelf[(int) a[0]];
            Object to = shelf[(int) a[2]];
            if (from == null || to == null) return -11;
            if (!isRow(from) || from.getClass() != to.getClass()) return -12;
            if (a[1] < 0 || a[3] < 0 || a[4] < 0 || a[1] + a[4] > length(from) || a[3] + a[4] > length(to)) return -13;
            System.arraycopy(from, (int) a[1], to, (int) a[3], (int) a[4]);
            return a[4];
        }

        private long taken(long on, long k) {
            if (on < 0 || on > 5 || k < 0 || k > 6) return -1;
            Object held = shelf[(int) on];
            if (held == null) return -11;
            Class<?>[] classes = {Knower.class, EndsKnower.class, HeldKnower.class, LikeKnower.class,
                NestedKnower.class, TwiceKnower.class, ToldKnower.class};
            if (!classes[(int) k].isInstance(held)) return -12;
            return kinds.get(((Knower) held).n());
        }

        private long boxes(Told m, long[] a) {
            if (m == null || a[1] < 0 || a[1] > 5 || a[3] < 1 || a[3] > 12) return -1;
            Object held = shelf[(int) a[1]];
            if (held == null) return 0;
            if (!(held instanceof short[])) return -12;
            short[] row = (short[]) held;
            for (int came = 0; came < a[3]; came++) {
                int[] sums = new int[m.g + m.c];
                for (int s = 0; s < sums.length; s++) {
                    long at = a[2] + came * sums.length + s;
                    if (at >= row.length) return came;
                    sums[s] = row[(int) at];
                }
                if (!m.come(sums)) return came;
            }
            return a[3];
        }

        private long count(long what) {
            int boxes = 0;
            int opened = 0;
            for (Told m : matters) {
                boxes += m.streets.size();
                for (Street s : m.streets) opened += s.seen != null ? 1 : 0;
            }
            if (what < 0 || what > 5) return -1;
            return new long[] {matters.size(), tape.length(), boxes, opened, knowers.size(), trace.size()}[(int) what];
        }
    }

    // ---- runs

    private static final class Run {
        private final Dice dice;
        private final VotedFor x = new VotedFor();
        private final Model model = new Model();
        private final List<String> calls = new ArrayList<>();
        private final Map<String, Integer> answered;
        private final int run;
        private final int mostSum;
        private boolean ended;

        Run(int run, Map<String, Integer> answered) {
            this.run = run;
            this.answered = answered;
            dice = new Dice(run);
            mostSum = new int[] {5, 9, 9, 14, 24}[run % 5];
        }

        void go() {
            try {
                for (int m = dice.upTo(3); m >= 0; m--) tell();
                while (calls.size() < CALLS && !ended) step();
            } catch (RuntimeException thrown) {
                fail("run " + run + ": thrown " + thrown + " after " + calls.get(calls.size() - 1));
                thrown.printStackTrace(System.out);
            }
        }

        private long call(String name, long... a) {
            StringBuilder text = new StringBuilder(name + "(");
            for (int i = 0; i < a.length; i++) text.append(i == 0 ? "" : ", ").append(a[i]);
            calls.add(text + ")");
            if (calls.size() > 512) return 0;
            long due = model.call(name, a);
            long got = real(name, a);
            if (due >= 0 || name.equals("act")) answered.merge(name, 1, Integer::sum);
            if (got == due) return got;
            ended = true;
            fail("run " + run + ", call " + calls.size() + ": " + text + ") answered " + got + ", due is " + due);
            return got;
        }

        private long real(String name, long[] a) {
            int[] i = new int[7];
            for (int j = 0; j < a.length; j++) i[j] = (int) a[j];
            switch (name) {
                case "feed": return x.feed(i[0], i[1]);
                case "matter": return x.matter();
                case "of": return x.of(i[0], i[1]);
                case "sum": return x.sum(i[0], i[1]);
                case "many": return x.many(i[0]);
                case "table": return x.table(i[0], a[1], i[2]);
                case "drawn": return x.drawn(i[0], a[1], i[2]);
                case "may": return x.may(i[0], i[1], i[2]);
                case "open": return x.open(i[0], i[1], i[2]);
                case "ends": return x.ends(i[0], i[1], i[2]);
                case "inAll": return x.inAll(i[0], i[1], i[2]);
                case "sure": return x.sure(i[0], i[1]);
                case "next": return x.next(i[0], i[1]);
                case "opens": return x.opens(i[0], i[1], i[2]);
                case "hold": return x.hold(i[0], i[1], i[2], i[3], i[4]);
                case "by": return x.by(i[0], i[1], i[2], i[3]);
                case "none": return x.none(i[0], i[1]);
                case "claim": return x.claim(i[0], i[1], i[2], i[3]);
                case "must": return x.must(i[0], i[1], i[2], i[3]);
                case "line": return x.line(i[0], i[1]);
                case "wrong": return x.wrong(i[0], i[1]);
                default: return realToo(name, a, i);
            }
        }

        private long realToo(String name, long[] a, int[] i) {
            switch (name) {
                case "second": return x.second(i[0], a[1]);
                case "split": return x.split(i[0], i[1], i[2]);
                case "splits": return x.splits(i[0], i[1]);
                case "changed": return x.changed(i[0], i[1]);
                case "parted": return x.parted(i[0], i[1], i[2], i[3]);
                case "weight": return x.weight(i[0], i[1], i[2]);
                case "likeliest": return x.likeliest(i[0], i[1]);
                case "weighs": return x.weighs(i[0], i[1]);
                case "chance": return x.chance(i[0], i[1], i[2]);
                case "knowing": return x.knowing(i[0]);
                case "act": return x.act(i[0], i[1], i[2]);
                case "trace": return x.trace(i[0]);
                case "keep": return x.keep(i[0], i[1]);
                case "row": return x.row(i[0], i[1], i[2]);
                case "put": return x.put(i[0], i[1], a[2]);
                case "element": return x.element(i[0], i[1]);
                case "shift": return x.shift(i[0], i[1], i[2], i[3], i[4]);
                case "taken": return x.taken(i[0], i[1]);
                case "boxes": return x.boxes(i[0], i[1], i[2], i[3]);
                case "count": return x.count(i[0]);
                default: throw new IllegalArgumentException(name);
            }
        }

        // ---- numbers that are mostly there

        private long oddly(long usual) {
            if (!dice.oneIn(40)) return usual;
            switch (dice.upTo(5)) {
                case 0: return -1;
                case 1: return usual + 1;
                case 2: return usual - 1;
                case 3: return Integer.MAX_VALUE;
                case 4: return Integer.MIN_VALUE;
                default: return dice.upTo(200);
            }
        }

        private int someMatter() {
            return dice.upTo(Math.max(0, model.matters.size() - 1));
        }

        private Told told(int m) {
            return m < model.matters.size() ? model.matters.get(m) : null;
        }

        private int someBox(int m) {
            Told t = told(m);
            return t == null ? 0 : dice.upTo(Math.max(0, t.streets.size() - 1));
        }

        private long someCell(int m) {
            Told t = told(m);
            return oddly(t == null ? 0 : 10 * dice.upTo(t.g - 1) + dice.upTo(t.c - 1));
        }

        private long someSet(int m) {
            Told t = told(m);
            int all = t == null ? 0 : (1 << t.things.size()) - 1;
            return oddly(dice.oneIn(3) ? all : dice.upTo(all));
        }

        private void tell() {
            int g = dice.from(2, 4);
            int c = dice.from(2, 3);
            List<int[]> boxes = new ArrayList<>();
            int most = g * c > 6 ? Math.min(mostSum, 10) : mostSum;
            for (int b = dice.upTo(dice.oneIn(6) ? 12 : 4); b >= 0; b--) boxes.add(Text.evenSums(dice, g, c, most));
            String text = dice.oneIn(8) ? "g" + g + "c" + c : Text.of(g, c, boxes);
            if (dice.oneIn(5)) text = spoilt(text);
            feedAll(text);
            call("matter");
        }

        private String spoilt(String text) {
            int at = dice.upTo(text.length() - 1);
            String signs = "gc;/,0123456789 x\u00ff\u0000";
            char sign = signs.charAt(dice.upTo(signs.length() - 1));
            switch (dice.upTo(3)) {
                case 0: return text.substring(0, at);
                case 1: return text.substring(0, at) + sign + text.substring(at);
                case 2: return text.substring(0, at) + text.substring(at + 1);
                default: return text.substring(0, at) + sign + text.substring(at + 1);
            }
        }

        private void feedAll(String text) {
            int i = 0;
            while (i < text.length()) {
                int n = Math.min(4, text.length() - i);
                int v = 0;
                for (int j = 0; j < n; j++) v |= text.charAt(i + j) << 8 * j;
                call("feed", oddly(n), v);
                i += n;
            }
        }

        private void step() {
            int m = someMatter();
            long at = oddly(100 * m + someBox(m));
            switch (dice.upTo(9)) {
                case 0: matters(m, at); break;
                case 1: tables(m, at); break;
                case 2: ends(m, at); break;
                case 3: held(m); break;
                case 4: claims(m); break;
                case 5: line(m); break;
                case 6: votes(m, at); break;
                case 7: weights(m, at); break;
                case 8: acts(); break;
                default: shelves(m, at); break;
            }
        }

        private void matters(int m, long at) {
            switch (dice.upTo(5)) {
                case 0: if (dice.oneIn(3)) tell(); break;
                case 1: call("of", oddly(m), oddly(dice.upTo(4))); break;
                case 2: call("sum", at, oddly(dice.upTo(20))); break;
                case 3: call("count", oddly(dice.upTo(5))); break;
                case 4: if (dice.oneIn(20)) feedAll("g2c2;".repeat(dice.upTo(45))); break;
                default: call("sum", at, 20); break;
            }
        }

        private void tables(int m, long at) {
            Told t = told(m);
            int size = 1;
            if (t != null && at >= 0 && at % 100 < t.streets.size()) size = t.streets.get((int) (at % 100)).tables.size();
            switch (dice.upTo(2)) {
                case 0: call("many", at); break;
                case 1: call("table", at, dice.oneIn(9) ? dice.bits() : dice.upTo(size), someCell(m)); break;
                default: call("drawn", at, dice.oneIn(2) ? dice.bits() : dice.upTo(9), someCell(m)); break;
            }
        }

        private void ends(int m, long at) {
            switch (dice.upTo(4)) {
                case 0: call("ends", at, someCell(m), oddly(dice.upTo(1))); break;
                case 1: call("inAll", oddly(m), someCell(m), oddly(dice.upTo(3))); break;
                case 2: call("sure", oddly(m), someCell(m)); break;
                case 3: call("next", oddly(m), someCell(m)); break;
                default: call("opens", oddly(m), someCell(m), oddly(dice.upTo(12))); break;
            }
        }

        private void held(int m) {
            if (dice.oneIn(3)) return;
            int boxes = 100 * someBox(m) + someBox(m);
            call("hold", oddly(m), oddly(dice.upTo(3)), someCell(m), Math.max(0, oddly(boxes)), oddly(dice.upTo(6)));
        }

        private void claims(int m) {
            switch (dice.upTo(3)) {
                case 0: call("by", oddly(m), someSet(m), someCell(m), oddly(dice.upTo(1))); break;
                case 1: call("none", oddly(m), someSet(m)); break;
                case 2: call("claim", oddly(m), someSet(m), someCell(m), oddly(dice.upTo(25))); break;
                default: call("must", oddly(m), someSet(m), someCell(m), oddly(dice.upTo(25))); break;
            }
        }

        private void line(int m) {
            if (dice.oneIn(2)) call("line", oddly(m), oddly(dice.upTo(1000)));
            else call("wrong", oddly(m), oddly(dice.from(-1, 3)));
        }

        private void votes(int m, long at) {
            switch (dice.upTo(4)) {
                case 0: call("second", at, secondSums(m, at)); break;
                case 1: call("split", at, oddly(10 * dice.upTo(2) + dice.upTo(2)), oddly(dice.upTo(1))); break;
                case 2: call("splits", at, oddly(dice.upTo(1))); break;
                case 3: call("changed", at, oddly(someBox(m))); break;
                default: call("parted", at, someCell(m), oddly(dice.upTo(9)), oddly(10 * dice.upTo(1) + dice.upTo(1)));
            }
        }

        private long secondSums(int m, long at) {
            Told t = told(m);
            if (t == null || at < 0 || at % 100 >= t.streets.size()) return dice.upTo(9000);
            int left = t.streets.get((int) (at % 100)).n;
            long sums = 0;
            for (int k = 0; k < t.c; k++) {
                int v = k == t.c - 1 ? left : dice.upTo(left);
                left -= v;
                sums = sums * 1000 + v;
            }
            if (!dice.oneIn(10)) return sums;
            return dice.oneIn(2) ? -sums : sums + 1000000000L * dice.upTo(3) + dice.from(-1, 1) * 999;
        }

        private void weights(int m, long at) {
            switch (dice.upTo(4)) {
                case 0: call("weight", oddly(m), someCell(m), oddly(dice.from(-3, 3))); break;
                case 1: call("weight", oddly(m), someCell(m), oddly(dice.from(-101, 101))); break;
                case 2: call("likeliest", at, someCell(m)); break;
                case 3: call("weighs", at, oddly(dice.upTo(1))); break;
                default: call("chance", at, someCell(m), oddly(dice.upTo(6))); break;
            }
        }

        private void acts() {
            int last = model.knowers.size() - 1;
            switch (dice.upTo(3)) {
                case 0: call("knowing", oddly(dice.upTo(6))); break;
                case 1: call("trace", oddly(dice.upTo(25))); break;
                case 2: call("count", 5); break;
                default:
                    call("act", oddly(dice.upTo(Math.max(0, last))), oddly(dice.upTo(3)),
                        dice.oneIn(3) ? (int) dice.bits() : dice.upTo(20));
            }
        }

        private void shelves(int m, long at) {
            long on = oddly(dice.upTo(5));
            switch (dice.upTo(8)) {
                case 0: keepAndTake(on); break;
                case 1: call("row", on, oddly(dice.upTo(4)), oddly(dice.upTo(60))); break;
                case 2: call("put", on, oddly(dice.upTo(30)), someValue()); break;
                case 3: call("element", on, oddly(dice.upTo(30))); break;
                case 4: call("taken", on, oddly(dice.upTo(6))); break;
                case 5: shift(on); break;
                case 6: rowOfBoxes(m, on); break;
                default: rowOfTable(m, at, on); break;
            }
        }

        private long someValue() {
            return dice.oneIn(2) ? dice.upTo(9) : dice.oneIn(2) ? dice.bits() : dice.from(-300, 300);
        }

        private void keepAndTake(long on) {
            call("keep", on, oddly(dice.from(-1, Math.max(0, model.knowers.size() - 1))));
            call("taken", on, oddly(dice.upTo(6)));
        }

        private void shift(long on) {
            long other = dice.oneIn(2) ? on : oddly(dice.upTo(5));
            int sort = dice.upTo(4);
            call("row", other, sort, dice.from(0, 30));
            if (!dice.oneIn(5)) call("row", on, sort, dice.from(10, 30));
            for (int p = dice.upTo(6); p >= 0; p--) call("put", on, dice.upTo(12), someValue());
            int i = dice.upTo(10);
            int j = dice.upTo(10);
            call("shift", on, oddly(i), other, oddly(j), Math.max(0, oddly(dice.upTo(12))));
            for (int p = 0; p < 4; p++) call("element", other, j + dice.upTo(8));
        }

        private void rowOfBoxes(int m, long on) {
            Told t = told(m);
            if (t == null || on < 0 || on > 5) return;
            int size = t.g + t.c;
            int n = dice.from(1, 3);
            int from = dice.upTo(4);
            call("row", on, dice.oneIn(8) ? 2 : 1, Math.min(60, from + n * size - (dice.oneIn(4) ? 1 : 0)));
            for (int b = 0; b < n; b++) {
                int[] sums = Text.evenSums(dice, t.g, t.c, Math.min(9, mostSum));
                if (dice.oneIn(6)) sums[dice.upTo(size - 1)] += dice.from(-10, 1);
                if (dice.oneIn(12)) {
                    sums[0] += 100;
                    sums[t.g] += 100;
                }
                for (int s = 0; s < size; s++) call("put", on, from + b * size + s, sums[s]);
            }
            call("boxes", oddly(m), on, Math.max(0, oddly(from)), oddly(dice.from(1, 4)));
            call("of", m, 2);
        }

        private void rowOfTable(int m, long at, long on) {
            Told t = told(m);
            if (t == null || on < 0 || on > 5 || at < 0 || at / 100 != m || at % 100 >= t.streets.size()) return;
            Street s = t.streets.get((int) (at % 100));
            int[] cells = s.tables.get(dice.upTo(s.tables.size() - 1)).clone();
            if (dice.oneIn(3)) cells[dice.upTo(cells.length - 1)] += dice.from(-2, 2);
            if (dice.oneIn(5)) {
                cells[0]++;
                cells[1]--;
            }
            if (dice.oneIn(9)) cells[dice.upTo(cells.length - 1)] -= Integer.MIN_VALUE;
            int from = dice.upTo(3);
            call("row", on, dice.oneIn(8) ? 3 : 2, from + cells.length);
            for (int p = 0; p < cells.length; p++) call("put", on, from + p, cells[p]);
            call("may", at, on, oddly(from));
            if (dice.oneIn(2)) call("open", at, on, oddly(from));
            call("ends", at, someCell(m), dice.upTo(1));
        }
    }
}
