import java.util.ArrayList;
import java.util.List;

/**
 * Any numbers in any state: nothing is thrown, every call ends, and what is refused changes nothing: a twin that is
 * spared the refused calls answers the same in the end.
 */
public final class HostileTest {
    private static final int RUNS = 1200;
    private static final int CALLS = 512;
    private static final int LOOKING_CALLS = 41;
    private static int wrong;

    private static final String[] TEXTS = {
        "g2c2;5,3/4,4;2,6/3,5;0,4/1,3;9,0/6,3", "g4c3;99,99,99,0/99,99,99;9,1,2,3/7,5,3;40,40,40,40/60,50,50",
        "g3c3;29,17,24/16,16,38;23,24,18/20,13,32;1,1,1/1,1,1", "g2c3", "g4c2;9,8,7,6/20,10",
        "g2c2;99,99/99,99;99,99/99,99;99,99/99,99;1,1/1,1", "g3c2;0,0,0/0,0;1,0,0/0,1"};
    private static final int[] ODD = {-1, 0, 1, 2, 3, 9, 10, 11, 12, 13, 20, 21, 60, 61, 99, 100, 101, 102, 200, 300,
        399, 400, 999, 1000, 1001, 9999, 10000, 65535, -2, -100, Integer.MAX_VALUE, Integer.MIN_VALUE,
        Integer.MAX_VALUE - 1, Integer.MIN_VALUE + 1, 1 << 30, -14};
    private static final long[] ODD_LONGS = {0, -1, 1, 5005, 1001002, Long.MAX_VALUE, Long.MIN_VALUE, 1L << 32,
        1000000000000L, 999999999L, 20000, 255, 128};

    private final VotedFor x = new VotedFor();
    private final VotedFor twin = new VotedFor();
    private final List<String> latest = new ArrayList<>();
    private long state;

    private HostileTest(long seed) {
        state = seed * 0x5DEECE66DL + 11;
    }

    public static void main(String[] args) {
        for (int run = 0; run < RUNS && wrong < 10; run++) new HostileTest(run).go(run);
        if (wrong > 0) {
            System.out.println(wrong + " runs are wrong");
            System.exit(1);
        }
    }

    private long bits() {
        state = state * 6364136223846793005L + 1442695040888963407L;
        return state ^ state >>> 29;
    }

    private int upTo(int most) {
        return (int) Math.floorMod(bits() >>> 7, most + 1L);
    }

    /** Mostly what may be there, sometimes anything. */
    private int near(int most) {
        int how = upTo(11);
        if (how == 0) return ODD[upTo(ODD.length - 1)];
        return how == 1 ? (int) bits() : upTo(most);
    }

    private int at() {
        return upTo(9) == 0 ? near(400) : 100 * upTo(3) + upTo(4);
    }

    private int cell() {
        return upTo(9) == 0 ? near(40) : 10 * upTo(3) + upTo(2);
    }

    private long anyLong() {
        return upTo(2) == 0 ? bits() : ODD_LONGS[upTo(ODD_LONGS.length - 1)];
    }

    private void go(int run) {
        try {
            int calls = 0;
            for (int t = upTo(3); t >= 0; t--) calls += tell(TEXTS[upTo(TEXTS.length - 1)]);
            while (calls++ < CALLS - LOOKING_CALLS) step();
            compare(run);
        } catch (RuntimeException | StackOverflowError | OutOfMemoryError thrown) {
            wrong++;
            System.out.println("run " + run + " throws " + thrown + " after " + latest);
        }
    }

    private int tell(String text) {
        int calls = 1;
        for (int i = 0; i < text.length(); i += 4) {
            int n = Math.min(4, text.length() - i);
            int v = 0;
            for (int j = 0; j < n; j++) v |= text.charAt(i + j) << 8 * j;
            change("feed", n, v, 0, 0, 0, 0);
            calls++;
        }
        change("matter", 0, 0, 0, 0, 0, 0);
        return calls;
    }

    private void step() {
        if (upTo(2) == 0) changing();
        else if (upTo(1) == 0) looking();
        else lookingToo();
    }

    private void changing() {
        switch (upTo(12)) {
            case 0: change("feed", near(5), near(255), 0, 0, 0, 0); break;
            case 1: if (upTo(5) == 0) change("matter", 0, 0, 0, 0, 0, 0); break;
            case 2: change("open", at(), near(5), near(4), 0, 0, 0); break;
            case 3: change("hold", near(3), near(3), cell(), at(), near(99), 0); break;
            case 4: change("second", at(), 0, 0, 0, 0, anyLong()); break;
            case 5: change("weight", near(3), cell(), near(99), 0, 0, 0); break;
            case 6: change("knowing", near(6), 0, 0, 0, 0, 0); break;
            case 7: change("act", near(9), near(3), near(99), 0, 0, 0); break;
            case 8: change("keep", near(5), near(9) - 1, 0, 0, 0, 0); break;
            case 9: change("row", near(5), near(4), near(60), 0, 0, 0); break;
            case 10: change("put", near(5), near(20), 0, 0, 0, upTo(1) == 0 ? upTo(9) : anyLong()); break;
            case 11: change("shift", near(5), near(20), near(5), near(20), near(20), 0); break;
            default: change("boxes", near(3), near(5), near(9), near(12), 0, 0); break;
        }
    }

    private void change(String name, int a, int b, int c, int d, int e, long v) {
        note(name, a, b, c, d, e, v);
        long answer = call(x, name, a, b, c, d, e, v);
        boolean refused = name.equals("weight") ? answer == VotedFor.VOID : answer < 0 && answer > -100;
        if (!refused || name.equals("act")) call(twin, name, a, b, c, d, e, v);
    }

    private void note(String name, long... numbers) {
        latest.add(name + java.util.Arrays.toString(numbers));
        if (latest.size() > 3) latest.remove(0);
    }

    private static long call(VotedFor on, String name, int a, int b, int c, int d, int e, long v) {
        switch (name) {
            case "feed": return on.feed(a, b);
            case "matter": return on.matter();
            case "open": return on.open(a, b, c);
            case "hold": return on.hold(a, b, c, d, e);
            case "second": return on.second(a, v);
            case "weight": return on.weight(a, b, c);
            case "knowing": return on.knowing(a);
            case "act": return on.act(a, b, c);
            case "keep": return on.keep(a, b);
            case "row": return on.row(a, b, c);
            case "put": return on.put(a, b, v);
            case "shift": return on.shift(a, b, c, d, e);
            default: return on.boxes(a, b, c, d);
        }
    }

    private void looking() {
        int a = at();
        int m = near(3);
        int c = cell();
        int n = near(9);
        int k = near(1);
        long v = anyLong();
        int which = upTo(14);
        note("looking " + which, a, m, c, n, k, v);
        switch (which) {
            case 0: x.of(m, n); break;
            case 1: x.sum(a, n); break;
            case 2: x.many(a); break;
            case 3: x.table(a, v, c); break;
            case 4: x.drawn(a, v, c); break;
            case 5: x.may(a, n, m); break;
            case 6: x.ends(a, c, k); break;
            case 7: x.inAll(m, c, n); break;
            case 8: x.sure(m, c); break;
            case 9: x.next(m, c); break;
            case 10: x.opens(m, c, n); break;
            case 11: x.line(m, near(1000)); break;
            case 12: x.wrong(m, n - 1); break;
            case 13: x.element(n, near(60)); break;
            default: x.count(n); break;
        }
    }

    private void lookingToo() {
        int a = at();
        int m = near(3);
        int c = cell();
        int n = near(9);
        int k = near(1);
        int set = upTo(3) == 0 ? near(255) : (1 << upTo(8)) - 1;
        int which = upTo(13);
        note("looking too " + which, a, m, c, n, k, set);
        switch (which) {
            case 0: x.by(m, set, c, k); break;
            case 1: x.none(m, set); break;
            case 2: x.claim(m, set, c, near(200)); break;
            case 3: x.must(m, set, c, near(200)); break;
            case 4: x.split(a, c, k); break;
            case 5: x.splits(a, k); break;
            case 6: x.changed(a, near(12)); break;
            case 7: x.parted(a, c, n, near(11)); break;
            case 8: x.likeliest(a, c); break;
            case 9: x.weighs(a, k); break;
            case 10: x.chance(a, c, n); break;
            case 11: x.trace(near(24)); break;
            case 12: x.taken(near(5), near(6)); break;
            default: x.many(m); break;
        }
    }

    /** The looking calls that stay of the 512, spread by the run. */
    private void compare(int run) {
        for (int what = 0; what < 6; what++) same(run, "count", x.count(what), twin.count(what));
        for (int m = 0; m < 4; m++) same(run, "of 3", x.of(m, 3), twin.of(m, 3));
        for (int s = 0; s < 6; s++) {
            same(run, "taken", x.taken(s, 0), twin.taken(s, 0));
            int i = upTo(20);
            same(run, "element", x.element(s, i), twin.element(s, i));
        }
        int set = (1 << Math.max(0, x.of(0, 3))) - 1;
        int m = upTo(3);
        int b = 100 * m + upTo(3);
        int cell = 10 * upTo(1) + upTo(1);
        same(run, "by", x.by(0, set, cell, 0), twin.by(0, set, cell, 0));
        same(run, "inAll", x.inAll(m, cell, 0), twin.inAll(m, cell, 0));
        same(run, "sure", x.sure(m, cell), twin.sure(m, cell));
        same(run, "line", x.line(m, 400), twin.line(m, 400));
        same(run, "wrong", x.wrong(m, -1), twin.wrong(m, -1));
        same(run, "ends", x.ends(b, cell, 1), twin.ends(b, cell, 1));
        same(run, "split", x.split(b, cell, 1), twin.split(b, cell, 1));
        same(run, "splits", x.splits(b, 0), twin.splits(b, 0));
        same(run, "weighs", x.weighs(b, 0), twin.weighs(b, 0));
        same(run, "weighs", x.weighs(b, 1), twin.weighs(b, 1));
        same(run, "likeliest", x.likeliest(b, cell), twin.likeliest(b, cell));
        same(run, "trace", x.trace(0), twin.trace(0));
        same(run, "feed", x.feed(1, 'g'), twin.feed(1, 'g'));
        same(run, "matter", x.matter(), twin.matter());
        same(run, "weight", x.weight(m, cell, 0), twin.weight(m, cell, 0));
    }

    private static void same(int run, String name, long got, long twins) {
        if (got == twins) return;
        wrong++;
        System.out.println("run " + run + ": " + name + " answers " + got + " behind refused calls, " + twins + " without");
    }
}
