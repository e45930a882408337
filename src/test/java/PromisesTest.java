/** Each promise of the document by hand: ordinary numbers, edges, wrong numbers, and which answer goes first. */
public final class PromisesTest {
    private static final int BAD = -1, NOT = -2, FULL = -3, BIG = -4, STATE = -5, VOID = -2000000000;
    private static final int MIN = Integer.MIN_VALUE, MAX = Integer.MAX_VALUE;

    /**
     * Tables of its boxes: 0: 1,4/3,0 2,3/2,1 3,2/1,2 4,1/0,3; 1: 0,2/3,3 1,1/2,4 2,0/1,5; 2: 0,0/1,3; 3: 6,3/0,0.
     */
    private static final String FOUR = "g2c2;5,3/4,4;2,6/3,5;0,4/1,3;9,0/6,3";
    private static final String MANY = "g3c3;29,17,24/16,16,38;23,24,18/20,13,32;1,1,1/1,1,1";

    private static String promise = "";
    private static int wrong;

    public static void main(String[] args) {
        constants();
        newObject();
        feed();
        matterFaults();
        matterUneven();
        matterFull();
        of();
        sum();
        many();
        table();
        drawn();
        mayCells();
        mayRefusals();
        open();
        openStays();
        ends();
        inAll();
        sure();
        next();
        opens();
        hold();
        holdOrder();
        holdOther();
        by();
        byBig();
        byOpened();
        allHeld();
        none();
        noneBig();
        claim();
        must();
        mustBig();
        line();
        wrongBoxes();
        wrongEdges();
        second();
        split();
        splits();
        changed();
        parted();
        weight();
        likeliest();
        weighs();
        chance();
        knowing();
        act();
        trace();
        keep();
        row();
        put();
        element();
        shift();
        taken();
        boxes();
        boxesEnd();
        count();
        if (wrong == 0) return;
        System.out.println(wrong + " answers are wrong");
        System.exit(1);
    }

    private static void due(String call, long got, long due) {
        if (got == due) return;
        wrong++;
        System.out.println(promise + ": " + call + " answered " + got + ", due is " + due);
    }

    private static void feedAll(VotedFor x, String text) {
        int i = 0;
        while (i < text.length()) {
            int n = Math.min(4, text.length() - i);
            int v = 0;
            for (int j = 0; j < n; j++) v |= text.charAt(i + j) << 8 * j;
            x.feed(n, v);
            i += n;
        }
    }

    private static int tell(VotedFor x, String text) {
        feedAll(x, text);
        return x.matter();
    }

    private static VotedFor with(String... texts) {
        VotedFor x = new VotedFor();
        for (int t = 0; t < texts.length; t++) due("matter() of " + texts[t], tell(x, texts[t]), t);
        return x;
    }

    private static void rowOf(VotedFor x, int shelf, int sort, long... elements) {
        due("row", x.row(shelf, sort, elements.length), 1);
        for (int i = 0; i < elements.length; i++) due("put", x.put(shelf, i, elements[i]), 1);
    }

    private static void elements(VotedFor x, int shelf, long... due) {
        for (int i = 0; i < due.length; i++) due("element(" + shelf + ", " + i + ")", x.element(shelf, i), due[i]);
        due("element behind the row", x.element(shelf, due.length), Long.MIN_VALUE);
    }

    // ---- constants, a new object

    private static void constants() {
        promise = "constants";
        due("BAD", VotedFor.BAD, -1);
        due("NOT", VotedFor.NOT, -2);
        due("FULL", VotedFor.FULL, -3);
        due("BIG", VotedFor.BIG, -4);
        due("STATE", VotedFor.STATE, -5);
        due("VOID", VotedFor.VOID, -2000000000);
    }

    private static void newObject() {
        promise = "1 a new object";
        VotedFor x = new VotedFor();
        for (int what = 0; what <= 5; what++) due("count(" + what + ")", x.count(what), 0);
        for (int what = 0; what <= 3; what++) due("of(0, " + what + ")", x.of(0, what), BAD);
        for (int s = 0; s <= 5; s++) due("taken(" + s + ", 0)", x.taken(s, 0), -11);
        due("trace(0)", x.trace(0), BAD);
        due("many(0)", x.many(0), BAD);
        due("none(0, 0)", x.none(0, 0), BAD);
        due("line(0, 0)", x.line(0, 0), VOID);
        due("act(0, 0, 7)", x.act(0, 0, 7), 0);
        due("matter()", x.matter(), -100);
        tell(x, "g2c2");
        VotedFor y = new VotedFor();
        due("another object's count(0)", y.count(0), 0);
        due("its own count(0)", x.count(0), 1);
    }

    // ---- matters

    private static void feed() {
        promise = "2 feed";
        VotedFor x = new VotedFor();
        for (int n : new int[] {0, 5, -1, MAX, MIN}) due("feed(" + n + ", 103)", x.feed(n, 103), BAD);
        due("count(1)", x.count(1), 0);
        due("feed(1, ..g)", x.feed(1, 0x7f3f1f67), 1);
        due("feed(2, 2c)", x.feed(2, '2' | 'c' << 8 | 0x55550000), 3);
        due("feed(1, 2)", x.feed(1, '2'), 4);
        due("matter()", x.matter(), 0);
        due("feed(4, g3c3)", x.feed(4, 'g' | '3' << 8 | 'c' << 16 | '3' << 24), 4);
        due("feed(3, ;0,)", x.feed(3, ';' | '0' << 8 | ',' << 16), 7);
        due("matter()", x.matter(), -107);
        due("feed(4, -1)", x.feed(4, -1), 4);
        due("matter()", x.matter(), -100);
        for (int i = 1; i <= 49; i++) due("feed(4, 0)", x.feed(4, 0), 4 * i);
        due("feed(2, 0)", x.feed(2, 0), 198);
        due("feed(3, 0)", x.feed(3, 0), FULL);
        due("feed(4, 0)", x.feed(4, 0), FULL);
        due("count(1)", x.count(1), 198);
        due("feed(1, 0)", x.feed(1, 0), 199);
        due("feed(2, 0)", x.feed(2, 0), FULL);
        due("feed(1, 0)", x.feed(1, 0), 200);
        due("feed(1, 0)", x.feed(1, 0), FULL);
        due("feed(5, 0)", x.feed(5, 0), BAD);
        due("feed(0, 0)", x.feed(0, 0), BAD);
        due("count(1)", x.count(1), 200);
    }

    private static void fault(String text, int place) {
        VotedFor x = new VotedFor();
        due("matter() of " + text, tell(x, text), -100 - place);
        due("count(0)", x.count(0), 0);
        due("count(1)", x.count(1), 0);
        due("matter() behind a fault", tell(x, "g2c2"), 0);
    }

    private static void matterFaults() {
        promise = "3 matter, faults";
        String[] texts = {"", "x", "G2c2", " g2c2", "g", "g1", "g5", "g:", "g2", "g2d", "g2c", "g2c1", "g2c4", "g2c2 ",
            "g2c22", "g2c2;", "g2c2;;", "g2c2;,", "g2c2;-1", "g2c2;1", "g2c2;12", "g2c2;123", "g2c2;1/", "g2c2;1;",
            "g2c2;1,", "g2c2;1,,", "g2c2;1,2", "g2c2;1,2,", "g2c2;1,2/", "g2c2;1,2/3", "g2c2;1,2/3/", "g2c2;1,2/3,",
            "g2c2;1,2/3,0,", "g2c2;1,2/3,000", "g2c2;1,2/3,0;", "g2c2;1,2/3,0/", "g2c2;1,2/3,0 ", "g2c2;1,1/1,2x",
            "g3c2;1,1/", "g4c3;1,2,3,4/5,5;", "g4c3;1,2,3,4/5,5,0,", "g2c2;/", "g2c2;:", "g2c2;1:", "g2c2;1,/"};
        int[] places = {0, 0, 0, 0, 1, 1, 1, 1, 2, 2, 3, 3, 3, 4,
            4, 5, 5, 5, 5, 6, 7, 7, 6, 6,
            7, 7, 8, 8, 9, 10, 10, 11,
            12, 13, 13, 12, 12, 12,
            8, 16, 18, 5, 5, 6, 7};
        for (int t = 0; t < texts.length; t++) fault(texts[t], places[t]);
        String twelve = "g2c2" + ";0,0/0,0".repeat(12);
        fault(twelve + ";0,0/0,0", 100);
        fault(twelve + ";", 100);
        VotedFor x = with(twelve, "g2c2;01,00/1,0", "g4c3;99,99,99,00/99,99,99");
        due("of(0, 2)", x.of(0, 2), 12);
        due("sum(100, 0)", x.sum(100, 0), 1);
        due("sum(200, 20)", x.sum(200, 20), 297);
        String longer = "g2c2;1,1/1,1";
        for (int end = 0; end < longer.length(); end++) {
            VotedFor y = with(longer);
            int due = end == 4 ? 1 : -100 - end;
            due("a text that ends at " + end + ", behind a longer one", tell(y, longer.substring(0, end)), due);
        }
    }

    private static void matterUneven() {
        promise = "3 matter, uneven boxes";
        VotedFor x = new VotedFor();
        due("the second", tell(x, "g2c2;1,2/3,0;1,1/1,2;9,9/0,0"), -401);
        due("count(0)", x.count(0), 0);
        due("count(1)", x.count(1), 0);
        due("the first", tell(x, "g2c3;1,2/3,0,1"), -400);
        due("the twelfth", tell(x, "g2c2" + ";0,0/0,0".repeat(11) + ";0,1/0,0"), -411);
        due("a fault goes ahead", tell(x, "g2c2;1,1/1,2;"), -113);
        due("count(2)", x.count(2), 0);
    }

    private static void matterFull() {
        promise = "3 matter, full";
        VotedFor x = with("g2c2", "g3c2", "g4c3;1,1,1,1/2,1,1", "g2c3");
        feedAll(x, "zz");
        due("ahead of a fault", x.matter(), FULL);
        due("count(1)", x.count(1), 2);
        due("feed(1, 0)", x.feed(1, 0), 3);
        due("again", x.matter(), FULL);
        due("count(0)", x.count(0), 4);
        VotedFor y = with("g2c2", "g2c2", "g2c2", "g2c2");
        feedAll(y, "g2c2;1,1/1,2");
        due("ahead of an uneven box", y.matter(), FULL);
        due("count(1)", y.count(1), 12);
    }

    private static void of() {
        promise = "4 of";
        VotedFor x = with(FOUR, "g4c3");
        int[] first = {2, 2, 4, 0};
        int[] other = {4, 3, 0, 0};
        for (int what = 0; what < 4; what++) {
            due("of(0, " + what + ")", x.of(0, what), first[what]);
            due("of(1, " + what + ")", x.of(1, what), other[what]);
        }
        x.hold(0, 0, 0, 0, 1);
        due("of(0, 3)", x.of(0, 3), 1);
        due("of(1, 3)", x.of(1, 3), 0);
        for (int what : new int[] {-1, 4, 20, MAX, MIN}) due("of(0, " + what + ")", x.of(0, what), BAD);
        for (int m : new int[] {-1, 2, 4, 100, MAX, MIN}) due("of(" + m + ", 0)", x.of(m, 0), BAD);
    }

    private static void sum() {
        promise = "5 sum";
        VotedFor x = with(FOUR, "g4c3;1,2,3,4/5,4,1");
        int[] whats = {0, 1, 10, 11, 20};
        int[] first = {5, 3, 4, 4, 8};
        int[] last = {9, 0, 6, 3, 9};
        for (int i = 0; i < whats.length; i++) {
            due("sum(0, " + whats[i] + ")", x.sum(0, whats[i]), first[i]);
            due("sum(3, " + whats[i] + ")", x.sum(3, whats[i]), last[i]);
        }
        due("sum(100, 3)", x.sum(100, 3), 4);
        due("sum(100, 12)", x.sum(100, 12), 1);
        due("sum(100, 20)", x.sum(100, 20), 10);
        for (int what : new int[] {-1, 2, 9, 12, 19, 21, 30, 100, MAX, MIN}) due("sum(0, " + what + ")", x.sum(0, what), BAD);
        for (int what : new int[] {4, 13, 9}) due("sum(100, " + what + ")", x.sum(100, what), BAD);
        for (int at : new int[] {-1, -100, 4, 99, 101, 200, 300, 400, MAX, MIN}) due("sum(" + at + ", 20)", x.sum(at, 20), BAD);
    }

    private static void many() {
        promise = "6 many";
        VotedFor x = with(FOUR, MANY, "g4c3;3,3,3,3/4,4,4;5,6,7,8/9,9,8;0,0,0,0/0,0,0", "g3c3;99,99,99/99,99,99");
        long[] four = {4, 3, 1, 1};
        for (int b = 0; b < 4; b++) due("many(" + b + ")", x.many(b), four[b]);
        due("many(100)", x.many(100), 20004);
        due("many(101)", x.many(101), 20000);
        due("many(102)", x.many(102), 6);
        due("many(200)", x.many(200), 415);
        due("many(201)", x.many(201), 11231);
        due("many(202)", x.many(202), 1);
        due("many(300)", x.many(300), 12753775);
        for (int at : new int[] {-1, 4, 103, 301, 400, MAX, MIN}) due("many(" + at + ")", x.many(at), BAD);
    }

    private static void table() {
        promise = "7 table";
        VotedFor x = with(FOUR, "g3c3;1,1,1/1,1,1");
        int[][] four = {{1, 4, 3, 0}, {2, 3, 2, 1}, {3, 2, 1, 2}, {4, 1, 0, 3}};
        int[][] six = {{0, 0, 1, 0, 1, 0, 1, 0, 0}, {0, 0, 1, 1, 0, 0, 0, 1, 0}, {0, 1, 0, 0, 0, 1, 1, 0, 0},
            {0, 1, 0, 1, 0, 0, 0, 0, 1}, {1, 0, 0, 0, 0, 1, 0, 1, 0}, {1, 0, 0, 0, 1, 0, 0, 0, 1}};
        for (int i = 0; i < 4; i++) {
            for (int p = 0; p < 4; p++) due("table(0, " + i + ", place " + p + ")", x.table(0, i, 10 * (p / 2) + p % 2), four[i][p]);
        }
        for (int i = 0; i < 6; i++) {
            for (int p = 0; p < 9; p++) due("table(100, " + i + ", place " + p + ")", x.table(100, i, 10 * (p / 3) + p % 3), six[i][p]);
        }
        due("table(3, 0, 1)", x.table(3, 0, 1), 3);
        for (long i : new long[] {-1, 4, 1L << 32, Long.MAX_VALUE, Long.MIN_VALUE}) due("table(0, " + i + ", 0)", x.table(0, i, 0), BAD);
        for (int cell : new int[] {-1, 2, 9, 12, 20, 100, MAX, MIN}) due("table(0, 0, " + cell + ")", x.table(0, 0, cell), BAD);
        for (int at : new int[] {-1, 4, 101, 200}) due("table(" + at + ", 0, 0)", x.table(at, 0, 0), BAD);
        VotedFor y = with("g4c3;75,74,74,74/99,99,99");
        due("many(0)", y.many(0), 9005636100L);
        int[] first = {0, 0, 75, 0, 50, 24, 25, 49, 0, 74, 0, 0};
        int[] last = {75, 0, 0, 24, 50, 0, 0, 49, 25, 0, 0, 74};
        for (int p = 0; p < 12; p++) {
            int cell = 10 * (p / 3) + p % 3;
            due("the first table, " + cell, y.table(0, 0, cell), first[p]);
            due("the last table, " + cell, y.table(0, 9005636099L, cell), last[p]);
            due("behind the last table, " + cell, y.table(0, 9005636100L, cell), BAD);
        }
    }

    private static void drawn() {
        promise = "8 drawn";
        VotedFor x = with(FOUR, "g3c3;1,1,1/1,1,1");
        long[] seeds = {0, 1, 2, 3, 7, -1, -2, 1000000007, Long.MAX_VALUE, Long.MIN_VALUE};
        int[] ofFour = {2, 3, 1, 2, 3, 1, 3, 2, 1, 2};
        int[] ofThree = {2, 2, 0, 2, 2, 0, 2, 0, 1, 1};
        int[] ofSix = {2, 5, 3, 2, 5, 3, 5, 0, 1, 4};
        for (int s = 0; s < seeds.length; s++) {
            due("drawn(0, " + seeds[s] + ", 0)", x.drawn(0, seeds[s], 0), 1 + ofFour[s]);
            due("drawn(1, " + seeds[s] + ", 10)", x.drawn(1, seeds[s], 10), 3 - ofThree[s]);
            for (int k = 0; k < 3; k++) due("drawn(100, " + seeds[s] + ", " + k + ")", x.drawn(100, seeds[s], k), ofSix[s] / 2 == 2 - k ? 1 : 0);
        }
        due("drawn(3, 5, 1)", x.drawn(3, 5, 1), 3);
        for (int cell : new int[] {-1, 2, 20, MAX, MIN}) due("drawn(0, 0, " + cell + ")", x.drawn(0, 0, cell), BAD);
        for (int at : new int[] {-1, 4, 101, 200, MIN}) due("drawn(" + at + ", 0, 0)", x.drawn(at, 0, 0), BAD);
    }

    private static void may(VotedFor x, int at, int due, long... cells) {
        rowOf(x, 0, 2, cells);
        due("may(" + at + ") of " + java.util.Arrays.toString(cells), x.may(at, 0, 0), due);
    }

    private static void mayCells() {
        promise = "9 may, cells";
        VotedFor x = with(FOUR, "g2c3;4,1/2,2,1;1,1/1,1,0", "g3c2;1,1,2/2,2");
        may(x, 0, NOT, 1, 4, 3, 0);
        may(x, 0, NOT, 4, 1, 0, 3);
        may(x, 0, 0, -1, 6, 5, -2);
        may(x, 0, 1, 1, 3, 3, 0);
        may(x, 0, 1, 6, -1, -2, 5);
        may(x, 0, 10, 5, 0, -1, 4);
        may(x, 0, 10, 2, 3, 1, 2);
        may(x, 0, 11, 1, 4, 3, 1);
        may(x, 0, 11, 1, 4, 3, -1);
        may(x, 0, NOT, 2, 3, 2, 1, 7);
        may(x, 100, NOT, 1, 2, 1, 1, 0, 0);
        may(x, 100, 2, 2147483647, 2147483647, 6, 0, 0, 0);
        may(x, 100, 1, 1, -1, 4, 0, 0, 0);
        may(x, 100, 11, 2, 1, 1, 0, 0, 1);
        may(x, 100, 12, 2, 2, 0, 0, 0, 0);
        may(x, 200, 20, 1, 0, 1, 0, 1, 1);
        may(x, 200, 11, 1, 0, 1, 1, 0, 1);
        due("count(3)", x.count(3), 0);
    }

    private static void mayRefusals() {
        promise = "9 may, refusals";
        VotedFor x = with(FOUR);
        x.knowing(0);
        for (int at : new int[] {-1, 4, 100, MAX, MIN}) due("may(" + at + ", 0, 0)", x.may(at, 0, 0), BAD);
        for (int s : new int[] {-1, 6, MAX, MIN}) due("may(0, " + s + ", 0)", x.may(0, s, 0), BAD);
        due("on nothing", x.may(0, 1, -1), -11);
        x.keep(1, 0);
        due("on a knowing", x.may(0, 1, -1), -12);
        for (int sort : new int[] {0, 1, 3, 4}) {
            x.row(1, sort, 9);
            due("on a row of sort " + sort, x.may(0, 1, -1), -12);
        }
        rowOf(x, 1, 2, 9, 9, 2, 3, 2, 1);
        due("from place 2", x.may(0, 1, 2), NOT);
        due("from place 0", x.may(0, 1, 0), 1);
        for (int i : new int[] {-1, 3, 6, 7, MAX, MAX - 3, MIN}) due("may(0, 1, " + i + ")", x.may(0, 1, i), -13);
        x.row(1, 2, 0);
        due("of none", x.may(0, 1, 0), -13);
        x.row(1, 2, 3);
        due("of three", x.may(0, 1, 0), -13);
        VotedFor y = with("g4c3;0,0,0,0/0,0,0");
        y.row(0, 2, 11);
        due("of eleven", y.may(0, 0, 0), -13);
        y.row(0, 2, 13);
        due("of thirteen", y.may(0, 0, 1), NOT);
        due("of thirteen, from place 2", y.may(0, 0, 2), -13);
    }

    private static void open() {
        promise = "10 open";
        VotedFor x = with(FOUR);
        due("on nothing", x.open(0, 0, 0), -11);
        due("no such shelf", x.open(0, 6, 0), BAD);
        due("no such box", x.open(4, 0, 0), BAD);
        x.row(0, 1, 4);
        due("on shorts", x.open(0, 0, 0), -12);
        rowOf(x, 0, 2, 0, 2, 3, 2, 1);
        due("out of the row", x.open(0, 0, 2), -13);
        due("below the row", x.open(0, 0, -1), -13);
        due("no table of it", x.open(0, 0, 0), NOT);
        due("of another box", x.open(3, 0, 1), NOT);
        rowOf(x, 0, 2, -1, 6, 5, -2);
        due("its first cell below 0", x.open(0, 0, 0), NOT);
        rowOf(x, 0, 2, 0, 2, 3, 2, 1);
        due("count(3)", x.count(3), 0);
        due("its table", x.open(0, 0, 1), 1);
        due("count(3)", x.count(3), 1);
        due("again", x.open(0, 0, 1), STATE);
        due("no table goes ahead of STATE", x.open(0, 0, 0), NOT);
        due("-13 goes ahead of STATE", x.open(0, 0, 5), -13);
        rowOf(x, 0, 2, 4, 1, 0, 3);
        due("another table", x.open(0, 0, 0), STATE);
        int[] seen = {2, 3, 2, 1};
        for (int p = 0; p < 4; p++) {
            due("least", x.ends(0, 10 * (p / 2) + p % 2, 0), seen[p]);
            due("most", x.ends(0, 10 * (p / 2) + p % 2, 1), seen[p]);
        }
    }

    private static void openStays() {
        promise = "10 open, of groups and choices";
        VotedFor x = with("g3c2;2,2,2/3,3", "g2c3;3,3/2,2,2");
        rowOf(x, 0, 2, 1, 1, 2, 0, 0, 2);
        due("open(0)", x.open(0, 0, 0), 1);
        due("ends(0, 10, 0)", x.ends(0, 10, 0), 2);
        due("ends(0, 20, 1)", x.ends(0, 20, 1), 0);
        due("ends(0, 21, 0)", x.ends(0, 21, 0), 2);
        rowOf(x, 0, 2, 1, 0, 2, 1, 2, 0);
        due("ends(0, 11, 1)", x.ends(0, 11, 1), 0);
        due("open(100)", x.open(100, 0, 0), 1);
        due("ends(100, 2, 0)", x.ends(100, 2, 0), 2);
        due("ends(100, 11, 1)", x.ends(100, 11, 1), 2);
        due("count(3)", x.count(3), 2);
    }

    // ---- ends

    private static void ends() {
        promise = "11 ends";
        VotedFor x = with(FOUR, "g4c3;9,1,2,3/7,5,3");
        int[][] due = {{0, 0, 1, 4}, {0, 1, 1, 4}, {0, 10, 0, 3}, {0, 11, 0, 3}, {1, 0, 0, 2}, {1, 11, 3, 5},
            {2, 0, 0, 0}, {2, 11, 3, 3}, {3, 0, 6, 6}, {100, 0, 1, 7}, {100, 2, 0, 3}, {100, 31, 0, 3}, {100, 10, 0, 1}};
        for (int[] d : due) {
            due("ends(" + d[0] + ", " + d[1] + ", 0)", x.ends(d[0], d[1], 0), d[2]);
            due("ends(" + d[0] + ", " + d[1] + ", 1)", x.ends(d[0], d[1], 1), d[3]);
        }
        for (int what : new int[] {-1, 2, MAX, MIN}) due("ends(0, 0, " + what + ")", x.ends(0, 0, what), BAD);
        for (int cell : new int[] {-1, 2, 20, 12, 9, MAX, MIN}) due("ends(0, " + cell + ", 0)", x.ends(0, cell, 0), BAD);
        for (int at : new int[] {-1, 4, 101, 200, MAX, MIN}) due("ends(" + at + ", 0, 0)", x.ends(at, 0, 0), BAD);
        for (int cell : new int[] {3, 13, 40}) due("ends(100, " + cell + ", 0)", x.ends(100, cell, 0), BAD);
    }

    private static void inAll() {
        promise = "12 inAll";
        VotedFor x = with(FOUR, "g2c2;0,4/1,3", "g2c2");
        int[][] due = {{7, 12, 437, 750}, {4, 9, 250, 562}, {2, 7, 153, 538}, {6, 11, 461, 846}};
        for (int p = 0; p < 4; p++) {
            for (int what = 0; what < 4; what++) {
                due("inAll(0, place " + p + ", " + what + ")", x.inAll(0, 10 * (p / 2) + p % 2, what), due[p][what]);
            }
        }
        int[] noPeople = {0, 0, VOID, VOID};
        for (int what = 0; what < 4; what++) {
            due("inAll(1, 0, " + what + ")", x.inAll(1, 0, what), noPeople[what]);
            due("inAll(2, 0, " + what + ")", x.inAll(2, 0, what), noPeople[what]);
        }
        due("inAll(1, 11, 2)", x.inAll(1, 11, 2), 750);
        rowOf(x, 0, 2, 3, 2, 1, 2);
        due("open", x.open(0, 0, 0), 1);
        due("inAll(0, 0, 0)", x.inAll(0, 0, 0), 9);
        due("inAll(0, 0, 1)", x.inAll(0, 0, 1), 11);
        due("inAll(0, 0, 3)", x.inAll(0, 0, 3), 687);
        for (int what : new int[] {-1, 4, MAX, MIN}) due("inAll(0, 0, " + what + ")", x.inAll(0, 0, what), VOID);
        for (int cell : new int[] {-1, 2, 20, MAX, MIN}) due("inAll(0, " + cell + ", 0)", x.inAll(0, cell, 0), VOID);
        for (int m : new int[] {-1, 3, MAX, MIN}) due("inAll(" + m + ", 0, 0)", x.inAll(m, 0, 0), VOID);
    }

    private static void sure() {
        promise = "13 sure";
        VotedFor x = with(FOUR, "g2c2", "g2c3;2,2/4,0,0;2,2/2,2,0;2,2/2,1,1");
        due("sure(0, 0)", x.sure(0, 0), 12);
        due("sure(0, 11)", x.sure(0, 11), 12);
        due("sure(1, 0)", x.sure(1, 0), 0);
        due("sure(2, 0)", x.sure(2, 0), 1);
        due("sure(2, 2)", x.sure(2, 2), 3);
        rowOf(x, 0, 2, 3, 2, 1, 2);
        x.open(0, 0, 0);
        due("sure(0, 0) with one opened", x.sure(0, 0), 13);
        for (int cell : new int[] {-1, 2, 20, MIN}) due("sure(0, " + cell + ")", x.sure(0, cell), BAD);
        for (int m : new int[] {-1, 3, MAX}) due("sure(" + m + ", 0)", x.sure(m, 0), BAD);
    }

    private static void next() {
        promise = "14 next";
        VotedFor x = with(FOUR, "g2c2", "g2c2;1,1/1,1;2,2/2,2;2,2/2,2");
        due("next(0, 0)", x.next(0, 0), 0);
        due("next(1, 0)", x.next(1, 0), NOT);
        due("next(2, 0), the least of like ones", x.next(2, 0), 1);
        rowOf(x, 0, 2, 3, 2, 1, 2);
        x.open(0, 0, 0);
        due("next(0, 0) with one opened", x.next(0, 0), 1);
        rowOf(x, 0, 2, 1, 1, 2, 4);
        x.open(1, 0, 0);
        due("next(0, 0), none wide", x.next(0, 0), NOT);
        rowOf(x, 0, 2, 1, 1, 1, 1);
        x.open(201, 0, 0);
        due("next(2, 11)", x.next(2, 11), 2);
        x.open(202, 0, 0);
        due("next(2, 11)", x.next(2, 11), 0);
        for (int cell : new int[] {-1, 2, 20, MIN}) due("next(0, " + cell + ")", x.next(0, cell), BAD);
        for (int m : new int[] {-1, 3, MAX}) due("next(" + m + ", 0)", x.next(m, 0), BAD);
    }

    private static void opens() {
        promise = "15 opens";
        VotedFor x = with(FOUR, "g2c2", "g2c2;1,1/1,1;2,2/2,2;2,2/2,2");
        int[][] due = {{0, 9999, 0}, {0, 5, 0}, {0, 4, 1}, {0, 2, 1}, {0, 1, 2}, {0, 0, 2}, {1, 0, 0},
            {2, 5, 0}, {2, 4, 1}, {2, 3, 1}, {2, 2, 2}, {2, 1, 2}, {2, 0, 3}};
        for (int[] d : due) due("opens(" + d[0] + ", 0, " + d[1] + ")", x.opens(d[0], 0, d[1]), d[2]);
        rowOf(x, 0, 2, 1, 1, 1, 1);
        x.open(201, 0, 0);
        due("opens(2, 0, 3) with one opened", x.opens(2, 0, 3), 0);
        due("opens(2, 0, 1)", x.opens(2, 0, 1), 1);
        due("opens(2, 0, 0)", x.opens(2, 0, 0), 2);
        VotedFor y = with("g2c2;1,1/1,1;4,4/4,4;1,1/1,1");
        int[] till = {3, 2, 1, 1, 1, 1, 0};
        for (int v = 0; v < 7; v++) due("opens, widest first, till " + v, y.opens(0, 0, v), till[v]);
        for (int v : new int[] {-1, 10000, MAX, MIN}) due("opens(0, 0, " + v + ")", x.opens(0, 0, v), BAD);
        for (int cell : new int[] {-1, 2, 20}) due("opens(0, " + cell + ", 0)", x.opens(0, cell, 0), BAD);
        for (int m : new int[] {-1, 3}) due("opens(" + m + ", 0, 0)", x.opens(m, 0, 0), BAD);
    }

    // ---- held things, claims

    private static void hold() {
        promise = "16 hold";
        VotedFor x = with(FOUR, "g2c2;1,1/1,1");
        int[][] bad = {{-1, 0, 0, 0, 1}, {2, 0, 0, 0, 1}, {0, -1, 0, 0, 1}, {0, 4, 0, 1, 1}, {0, 0, 2, 0, 1},
            {0, 0, 20, 0, 1}, {0, 0, -1, 0, 1}, {0, 0, 0, 400, 1}, {0, 1, 0, MAX, 1}, {0, 0, 0, 0, -1},
            {0, 0, 0, 0, 1000}, {0, 1, 0, 0, MAX}, {0, 2, 0, 0, 1}, {0, 3, 0, 303, 1}, {0, 2, 0, 4, 1},
            {0, 3, 0, 99, 1}, {0, 2, 0, 401, 1}, {1, 2, 0, 1, 1}, {1, 0, 0, 100, 1}};
        for (int[] b : bad) due("hold(" + java.util.Arrays.toString(b) + ")", x.hold(b[0], b[1], b[2], b[3], b[4]), BAD);
        due("of(0, 3)", x.of(0, 3), 0);
        due("at most, any other box", x.hold(0, 0, 0, 99, 0), 0);
        due("at least, the same box", x.hold(0, 1, 11, 303, 999), 1);
        due("differ", x.hold(0, 2, 0, 1, 1), 2);
        due("no more", x.hold(0, 3, 10, 302, 0), 3);
        due("of another matter", x.hold(1, 0, 0, 0, 1), 0);
        for (int h = 4; h < 8; h++) due("hold " + h, x.hold(0, 0, 0, 0, 5), h);
        due("the ninth", x.hold(0, 0, 0, 0, 5), FULL);
        due("a bad ninth", x.hold(0, 0, 0, 0, 1000), BAD);
        due("a bad ninth of two", x.hold(0, 2, 0, 202, 1), BAD);
        due("of(0, 3)", x.of(0, 3), 8);
        due("of(1, 3)", x.of(1, 3), 1);
    }

    /** Which box is no more than which, and what it adds, is seen by the ends in all. */
    private static void holdOrder() {
        promise = "16 hold, which box is which";
        VotedFor x = with("g2c2;9,9/9,9;3,3/3,3");
        x.hold(0, 3, 0, 1, 0);
        x.hold(0, 3, 0, 100, 0);
        x.hold(0, 3, 0, 1, 2);
        x.hold(0, 2, 0, 100, 1);
        x.hold(0, 0, 10, 100, 1);
        x.hold(0, 1, 1, 0, 8);
        int[] least = {0, 0, 0, 0, 2, 0};
        int[] most = {6, 12, 8, 7, 12, 4};
        for (int h = 0; h < 6; h++) {
            due("by(0, " + (1 << h) + ", 0, 0)", x.by(0, 1 << h, 0, 0), least[h]);
            due("by(0, " + (1 << h) + ", 0, 1)", x.by(0, 1 << h, 0, 1), most[h]);
        }
    }

    /** Rows go through all boxes of a matter, and sets through all things held. */
    private static void allHeld() {
        promise = "17, 18, 20 all boxes, all things held";
        VotedFor x = with("g2c2" + ";1,1/1,1".repeat(12), "g2c2" + ";1,1/1,1".repeat(7), "g2c2" + ";1,1/1,1".repeat(8));
        for (int b = 0; b < 12; b += 2) due("hold", x.hold(0, 2, 0, 100 * b + b + 1, 0), b / 2);
        due("hold", x.hold(0, 1, 0, 0, 1), 6);
        due("hold", x.hold(0, 0, 11, 1100, 0), 7);
        due("least by all boxes", x.by(0, 255, 0, 0), 2);
        due("most by all boxes", x.by(0, 255, 0, 1), 10);
        due("must(0, 255, 0, 2)", x.must(0, 255, 0, 2), 65);
        x.hold(1, 1, 0, 0, 1);
        for (int b = 0; b < 6; b++) x.hold(1, 3, 0, 100 * b + b + 1, 0);
        x.hold(1, 0, 0, 600, 0);
        due("none but by all eight", x.none(1, 255), 255);
        due("by seven", x.none(1, 254), NOT);
        due("by seven", x.by(1, 127, 0, 0), 7);
        x.hold(2, 1, 0, 0, 1);
        for (int b = 0; b < 7; b++) x.hold(2, 3, 0, 100 * b + b + 1, 0);
        due("follows but by all eight", x.must(2, 255, 0, 8), 255);
        due("by seven", x.must(2, 255, 0, 7), 127);
        due("by six", x.must(2, 63, 0, 6), 63);
        due("by none of them", x.must(2, 254, 0, 1), NOT);
    }

    private static void holdOther() {
        promise = "16 hold, the other box told of sorts 0 and 1";
        VotedFor x = with("g2c2;9,9/9,9;3,3/3,3;2,2/2,2");
        x.hold(0, 1, 0, 99, 9);
        x.hold(0, 0, 0, 199, 0);
        x.hold(0, 1, 0, 201, 2);
        x.hold(0, 1, 0, 2, 9);
        int[] least = {9, 0, 2, 9};
        int[] most = {14, 11, 14, 14};
        for (int h = 0; h < 4; h++) {
            due("by(0, " + (1 << h) + ", 0, 0)", x.by(0, 1 << h, 0, 0), least[h]);
            due("by(0, " + (1 << h) + ", 0, 1)", x.by(0, 1 << h, 0, 1), most[h]);
        }
    }

    private static VotedFor heldOfFour() {
        VotedFor x = with(FOUR);
        x.hold(0, 0, 0, 0, 2);
        x.hold(0, 1, 0, 100, 1);
        x.hold(0, 2, 0, 1, 0);
        x.hold(0, 3, 0, 1, 0);
        x.hold(0, 3, 0, 100, 0);
        x.hold(0, 0, 0, 0, 0);
        x.hold(0, 3, 0, 1, 1);
        return x;
    }

    private static void by() {
        promise = "17 by";
        VotedFor x = heldOfFour();
        int[][] due = {{0, 0, 7, 12}, {1, 0, 7, 10}, {1, 10, 4, 7}, {2, 0, 8, 12}, {3, 0, 8, 10}, {4, 0, 8, 10},
            {8, 0, 8, 10}, {16, 0, 7, 12}, {24, 0, 8, 10}, {32, 0, NOT, NOT}, {33, 0, NOT, NOT}, {64, 0, 7, 11},
            {6, 1, 6, 8}, {127, 0, NOT, NOT}};
        for (int[] d : due) {
            due("by(0, " + d[0] + ", " + d[1] + ", 0)", x.by(0, d[0], d[1], 0), d[2]);
            due("by(0, " + d[0] + ", " + d[1] + ", 1)", x.by(0, d[0], d[1], 1), d[3]);
        }
        for (int set : new int[] {-1, 128, MAX, MIN}) due("by(0, " + set + ", 0, 0)", x.by(0, set, 0, 0), BAD);
        for (int what : new int[] {-1, 2, MIN}) due("by(0, 32, 0, " + what + ")", x.by(0, 32, 0, what), BAD);
        for (int cell : new int[] {-1, 2, 20}) due("by(0, 32, " + cell + ", 0)", x.by(0, 32, cell, 0), BAD);
        for (int m : new int[] {-1, 1, MAX}) due("by(" + m + ", 0, 0, 0)", x.by(m, 0, 0, 0), BAD);
    }

    private static void byBig() {
        promise = "17 by, big";
        VotedFor x = with("g2c2;99,99/99,99;99,99/99,99;1,1/1,1;2,2/2,2;99,99/99,99", MANY);
        x.hold(0, 2, 0, 1, 0);
        x.hold(0, 0, 0, 200, 0);
        x.hold(0, 0, 0, 300, 0);
        x.hold(0, 0, 0, 400, 100);
        x.hold(0, 1, 0, 300, 3);
        x.hold(0, 0, 0, 4, 100);
        due("20000 rows", x.by(0, 3, 0, 1), 198 + 0 + 2 + 99);
        due("30000 rows", x.by(0, 5, 0, 1), BIG);
        due("100 times 100 times 2 times 3", x.by(0, 7, 0, 0), BIG);
        due("big goes ahead of none", x.by(0, 21, 0, 0), BIG);
        due("the other box of sort 0 is not named", x.by(0, 32 + 3, 0, 1), 198 + 0 + 2 + 99);
        due("the cells of a box count once", x.by(0, 32 + 1, 0, 1), 198 + 1 + 2 + 99);
        due("what is BAD goes ahead of big", x.by(0, 5, 0, 2), BAD);
        x.hold(1, 0, 0, 0, 50);
        x.hold(1, 0, 0, 100, 50);
        due("by a box of 20004", x.by(1, 1, 0, 0), BIG);
        due("by a box of 20000", x.by(1, 2, 0, 1), 16 + 20 + 1);
        due("by no box", x.by(1, 0, 0, 1), 16 + 20 + 1);
    }

    private static void byOpened() {
        promise = "17 by, of opened boxes";
        VotedFor x = with("g2c2;99,99/99,99;99,99/99,99;2,2/2,2;9,9/9,9");
        x.hold(0, 2, 0, 1, 0);
        x.hold(0, 3, 0, 200, 0);
        due("200 tables of 100 times 100 times 3", x.by(0, 3, 0, 0), BIG);
        rowOf(x, 0, 2, 40, 59, 59, 40);
        due("open", x.open(0, 0, 0), 1);
        due("least by what was seen", x.by(0, 1, 0, 0), 80);
        due("most by what was seen", x.by(0, 1, 0, 1), 80 + 2 + 9);
        due("least", x.by(0, 3, 0, 0), 80);
        rowOf(x, 0, 2, 1, 1, 1, 1);
        due("open", x.open(2, 0, 0), 1);
        due("least by both seen", x.by(0, 2, 0, 0), 41);
        x.hold(0, 0, 0, 200, 0);
        x.hold(0, 3, 0, 2, 0);
        x.hold(0, 3, 0, 2, 39);
        due("not kept by what was seen", x.by(0, 4, 0, 0), NOT);
        due("not kept by two that were seen", x.by(0, 8, 0, 1), NOT);
        due("kept by two that were seen", x.by(0, 16, 0, 1), 40 + 99 + 1 + 9);
    }

    private static void none() {
        promise = "18 none";
        VotedFor x = with(FOUR);
        x.hold(0, 0, 0, 0, 2);
        x.hold(0, 1, 0, 0, 3);
        x.hold(0, 1, 0, 100, 2);
        x.hold(0, 0, 0, 100, 1);
        due("none(0, 15)", x.none(0, 15), 3);
        due("none(0, 14)", x.none(0, 14), 12);
        due("none(0, 13)", x.none(0, 13), 12);
        due("none(0, 5)", x.none(0, 5), NOT);
        due("none(0, 0)", x.none(0, 0), NOT);
        x.hold(0, 1, 0, 0, 5);
        due("the fewest first", x.none(0, 31), 16);
        due("none(0, 15)", x.none(0, 15), 3);
        x.hold(0, 3, 0, 1, 0);
        due("three of two", x.none(0, 32 + 2), 34);
        due("NOT", x.none(0, 32 + 1 + 4), NOT);
        x.hold(0, 2, 0, 1, 0);
        x.hold(0, 1, 10, 100, 2);
        due("by other cells", x.none(0, 128 + 64 + 4), 128 + 4);
        due("three together", x.none(0, 128 + 64 + 1), NOT);
        for (int set : new int[] {-1, 256, MAX, MIN}) due("none(0, " + set + ")", x.none(0, set), BAD);
        for (int m : new int[] {-1, 1, MIN}) due("none(" + m + ", 0)", x.none(m, 0), BAD);
        VotedFor y = with("g2c2;2,2/2,2;2,2/2,2;2,2/2,2");
        y.hold(0, 3, 0, 1, 0);
        y.hold(0, 3, 0, 102, 0);
        y.hold(0, 1, 0, 0, 1);
        y.hold(0, 0, 0, 200, 0);
        due("none but by all four", y.none(0, 15), 15);
        due("three let some", y.none(0, 7), NOT);
        due("none(0, 8) of four told", y.none(0, 8), NOT);
        due("none(0, 16) untold", y.none(0, 16), BAD);
    }

    private static void noneBig() {
        promise = "18 none, big";
        VotedFor x = with("g2c2;99,99/99,99;99,99/99,99;99,99/99,99", MANY);
        x.hold(0, 2, 0, 1, 0);
        x.hold(0, 0, 0, 200, 5);
        x.hold(0, 1, 0, 200, 6);
        due("the pair is too big", x.none(0, 3), BIG);
        due("looked at ahead of the pair that lets none", x.none(0, 7), BIG);
        due("the pair that lets none", x.none(0, 6), 6);
        x.hold(0, 1, 0, 200, 100);
        due("one alone goes ahead", x.none(0, 15), 8);
        x.hold(1, 0, 0, 0, 5);
        x.hold(1, 1, 0, 100, 99);
        due("a big one goes ahead", x.none(1, 3), BIG);
        due("without the big one", x.none(1, 2), 2);
        due("the big one alone", x.none(1, 1), BIG);
    }

    private static void claim() {
        promise = "19 claim";
        VotedFor x = heldOfFour();
        int[][] due = {{0, 0, 2}, {0, 7, 2}, {0, 8, 1}, {0, 12, 1}, {0, 13, 0}, {0, 9999, 0}, {1, 7, 2}, {1, 8, 1},
            {1, 10, 1}, {1, 11, 0}, {6, 8, 2}, {6, 9, 1}, {6, 10, 1}, {6, 11, 0}, {32, 9999, 2}, {127, 0, 2}};
        for (int[] d : due) due("claim(0, " + d[0] + ", 0, " + d[1] + ")", x.claim(0, d[0], 0, d[1]), d[2]);
        due("claim(0, 1, 10, 4)", x.claim(0, 1, 10, 4), 2);
        due("claim(0, 1, 10, 5)", x.claim(0, 1, 10, 5), 1);
        for (int v : new int[] {-1, 10000, MAX, MIN}) due("claim(0, 0, 0, " + v + ")", x.claim(0, 0, 0, v), BAD);
        for (int set : new int[] {-1, 128, MIN}) due("claim(0, " + set + ", 0, 1)", x.claim(0, set, 0, 1), BAD);
        for (int cell : new int[] {-1, 2, 20}) due("claim(0, 0, " + cell + ", 1)", x.claim(0, 0, cell, 1), BAD);
        for (int m : new int[] {-1, 1}) due("claim(" + m + ", 0, 0, 1)", x.claim(m, 0, 0, 1), BAD);
        VotedFor y = with(MANY);
        y.hold(0, 0, 0, 0, 5);
        due("claim(0, 1, 0, 0)", y.claim(0, 1, 0, 0), BIG);
        due("claim(0, 0, 0, 0)", y.claim(0, 0, 0, 0), 2);
        due("claim(0, 1, 0, -1)", y.claim(0, 1, 0, -1), BAD);
    }

    private static void must() {
        promise = "20 must";
        VotedFor x = with(FOUR);
        x.hold(0, 0, 0, 0, 0);
        x.hold(0, 1, 0, 100, 1);
        x.hold(0, 1, 0, 0, 2);
        due("by nothing held", x.must(0, 7, 0, 7), 0);
        due("v 0", x.must(0, 7, 0, 0), 0);
        due("by one", x.must(0, 7, 0, 8), 2);
        due("by two", x.must(0, 7, 0, 9), 6);
        due("by none", x.must(0, 7, 0, 10), NOT);
        due("by one that lets none", x.must(0, 1, 0, 8), NOT);
        due("by another one", x.must(0, 5, 0, 8), 4);
        due("by untold ones", x.must(0, 8, 0, 8), BAD);
        x.hold(0, 1, 0, 0, 3);
        due("the fewest first", x.must(0, 15, 0, 9), 8);
        due("the least as bits", x.must(0, 15, 0, 8), 2);
        due("by two", x.must(0, 15, 0, 10), 10);
        x.hold(0, 0, 0, 0, 2);
        due("not by a pair that lets none", x.must(0, 24, 0, 10), NOT);
        due("by one of a pair that lets none", x.must(0, 24, 0, 9), 8);
        due("of another cell", x.must(0, 31, 10, 3), 16);
        for (int v : new int[] {-1, 10000, MAX, MIN}) due("must(0, 0, 0, " + v + ")", x.must(0, 0, 0, v), BAD);
        for (int set : new int[] {-1, 32, MIN}) due("must(0, " + set + ", 0, 1)", x.must(0, set, 0, 1), BAD);
        for (int cell : new int[] {-1, 2, 20}) due("must(0, 0, " + cell + ", 1)", x.must(0, 0, cell, 1), BAD);
        for (int m : new int[] {-1, 1}) due("must(" + m + ", 0, 0, 1)", x.must(m, 0, 0, 1), BAD);
        due("v 9999", x.must(0, 31, 0, 9999), NOT);
    }

    private static void mustBig() {
        promise = "20 must, big";
        VotedFor x = with(MANY, "g2c2;99,99/99,99;99,99/99,99;99,99/99,99");
        x.hold(0, 0, 0, 0, 5);
        x.hold(0, 1, 0, 200, 1);
        due("by nothing, ahead of big", x.must(0, 3, 0, 0), 0);
        due("big ahead of what follows", x.must(0, 3, 0, 1), BIG);
        due("without the big one", x.must(0, 2, 0, 1), 2);
        x.hold(1, 1, 0, 0, 7);
        x.hold(1, 2, 0, 102, 0);
        due("the pair is not looked at", x.must(1, 3, 0, 7), 1);
        due("the pair is looked at", x.must(1, 3, 0, 8), BIG);
        due("must(1, 1, 0, 8)", x.must(1, 1, 0, 8), NOT);
        due("must(1, 3, 0, 10000)", x.must(1, 3, 0, 10000), BAD);
    }

    // ---- the line

    private static void line() {
        promise = "21 line";
        VotedFor x = with(FOUR, "g2c2;1,2/0,3;1,0/1,0", "g2c2;1,2/2,1;0,0/0,0;2,4/1,5", "g2c2");
        due("line(0, 0)", x.line(0, 0), 257);
        due("line(0, 500)", x.line(0, 500), 460);
        due("line(0, 1000)", x.line(0, 1000), 663);
        due("toward below", x.line(1, 0), -500);
        due("line(1, 333)", x.line(1, 333), 0);
        due("line(1, 334)", x.line(1, 334), 1);
        due("line(1, 1000)", x.line(1, 1000), 1000);
        due("all dots above one another", x.line(2, 500), VOID);
        due("no dots", x.line(3, 500), VOID);
        for (int v : new int[] {-1, 1001, MAX, MIN}) due("line(0, " + v + ")", x.line(0, v), VOID);
        for (int m : new int[] {-1, 4, MAX, MIN}) due("line(" + m + ", 0)", x.line(m, 0), VOID);
        VotedFor y = with("g2c2;5,5/5,5", "g2c2;5,5/5,5;0,0/0,0", "g2c2;5,5/5,5;0,0/0,0;1,3/3,1");
        due("one dot", y.line(0, 0), VOID);
        due("one dot and no people", y.line(1, 0), VOID);
        due("two dots and no people", y.line(2, 0), 1000);
        due("two dots and no people", y.line(2, 1000), 0);
    }

    private static void wrongBoxes() {
        promise = "22 wrong";
        VotedFor x = with(FOUR, "g2c2;5,5/5,5", "g2c2");
        due("how many", x.wrong(0, -1), 1);
        due("the first", x.wrong(0, 0), 3);
        for (int i : new int[] {1, 2, MAX}) due("none such", x.wrong(0, i), BAD);
        rowOf(x, 0, 2, 1, 4, 3, 0);
        due("open", x.open(0, 0, 0), 1);
        due("how many with one opened", x.wrong(0, -1), 2);
        due("the first", x.wrong(0, 0), 0);
        due("the second", x.wrong(0, 1), 3);
        due("none such", x.wrong(0, 2), BAD);
        for (int i : new int[] {-2, MIN}) due("wrong(0, " + i + ")", x.wrong(0, i), BAD);
        for (int m : new int[] {-1, 3, MAX}) due("wrong(" + m + ", -1)", x.wrong(m, -1), BAD);
        due("no line", x.wrong(1, -1), NOT);
        due("no line goes ahead of none such", x.wrong(1, 7), NOT);
        due("no dots", x.wrong(2, -1), NOT);
        due("BAD goes ahead of no line", x.wrong(2, -2), BAD);
    }

    /** 2 of 3 are 666 thousandths as the least, cut, and 667 as the most, cut up: neither is WRONG there. */
    private static void wrongEdges() {
        promise = "22 wrong, cuts";
        VotedFor x = with("g2c2;3,0/2,1;0,1/0,1", "g2c2;0,50/0,50;1,0/1,0;3,0/2,1", "g2c2;9,0/7,2;0,4/0,4;3,0/2,1");
        due("line(0, 1000)", x.line(0, 1000), 666);
        due("neither below the least, cut, nor above", x.wrong(0, -1), 0);
        due("line(1, 1000)", x.line(1, 1000), 833);
        due("above one, below the other", x.wrong(1, -1), 2);
        due("the first", x.wrong(1, 0), 1);
        due("the second", x.wrong(1, 1), 2);
        due("line(2, 1000)", x.line(2, 1000), 721);
        due("wrong(2, -1)", x.wrong(2, -1), 2);
        VotedFor y = with("g2c2;0,9/0,9;50,0/33,17;3,0/2,1;50,0/34,16;25,0/17,8");
        due("line(0, 1000)", y.line(0, 1000), 671);
        due("all of one group but one", y.wrong(0, -1), 4);
        VotedFor z = with("g2c2;0,1/0,1;3,0/2,1;99,0/66,33;50,0/33,17;50,0/34,16;25,0/17,8;40,0/26,14");
        due("line(0, 1000)", z.line(0, 1000), 667);
        due("667 is what 2 of 3 are, cut up", z.wrong(0, -1), 4);
        due("the first", z.wrong(0, 0), 3);
        due("the fourth", z.wrong(0, 3), 6);
        VotedFor w = with("g2c2;0,1/0,1;25,0/17,8;87,0/59,28", "g2c2;0,1/0,1;50,0/33,17;74,0/49,25",
            "g2c2;0,1/0,1;27,0/1,26;76,0/3,73");
        int[] says = {679, 661, 38};
        int[] howMany = {1, 2, 1};
        int[] first = {1, 1, 2};
        for (int m = 0; m < 3; m++) {
            due("line(" + m + ", 1000)", w.line(m, 1000), says[m]);
            due("one off, wrong(" + m + ", -1)", w.wrong(m, -1), howMany[m]);
            due("one off, wrong(" + m + ", 0)", w.wrong(m, 0), first[m]);
        }
    }

    // ---- two votes, years, parts

    private static void second() {
        promise = "23 second";
        VotedFor x = with(FOUR, "g2c3;2,2/1,1,2");
        long[] bad = {-1, 3004, 3006, 8001, 7, -3005, 1000008, 8000000, 1000003005, Long.MAX_VALUE, Long.MIN_VALUE};
        for (long sums : bad) due("second(0, " + sums + ")", x.second(0, sums), BAD);
        due("split(0, 0, 0)", x.split(0, 0, 0), STATE);
        due("second(0, 3005)", x.second(0, 3005), 1);
        due("split(0, 0, 1)", x.split(0, 0, 1), 3);
        due("not as many", x.second(0, 8008), BAD);
        due("split(0, 0, 1) as it was", x.split(0, 0, 1), 3);
        due("told anew", x.second(0, 8), 1);
        due("split(0, 0, 1)", x.split(0, 0, 1), 0);
        due("second(0, 8000)", x.second(0, 8000), 1);
        due("split(0, 0, 1)", x.split(0, 0, 1), 4);
        long[] badOfThree = {4, 1001002001L, 4000, 1000, 5000000};
        due("second(100, 1001002)", x.second(100, 1001002), 1);
        due("second(100, 4000000)", x.second(100, 4000000), 1);
        due("second(100, 3001)", x.second(100, 3001), 1);
        due("split(100, 11, 1)", x.split(100, 11, 1), 1);
        due("second(100, 4)", x.second(100, badOfThree[0]), 1);
        due("second(100, 4000)", x.second(100, badOfThree[2]), 1);
        for (int b : new int[] {1, 3, 4}) due("second(100, " + badOfThree[b] + ")", x.second(100, badOfThree[b]), BAD);
        for (int at : new int[] {-1, 4, 101, 200, MIN}) due("second(" + at + ", 8)", x.second(at, 8), BAD);
        VotedFor y = with("g2c2;0,0/0,0", "g2c3;5,5/3,3,4");
        due("second(0, 0)", y.second(0, 0), 1);
        due("splits(0, 1)", y.splits(0, 1), 0);
        due("second(100, 5003002)", y.second(100, 5003002), 1);
        due("CHOICE 0 is the highest digit", y.split(100, 20, 1), 4);
        due("CHOICE 1", y.split(100, 21, 1), 3);
        due("CHOICE 2", y.split(100, 22, 1), 2);
    }

    private static void split() {
        promise = "24 split";
        VotedFor x = with(FOUR, "g2c3;2,2/1,1,2");
        due("split(0, 0, 0)", x.split(0, 0, 0), STATE);
        due("BAD goes ahead", x.split(0, 2, 0), BAD);
        x.second(0, 3005);
        int[][] due = {{0, 0, 3}, {1, 1, 4}, {10, 0, 3}, {11, 1, 4}};
        for (int[] d : due) {
            due("split(0, " + d[0] + ", 0)", x.split(0, d[0], 0), d[1]);
            due("split(0, " + d[0] + ", 1)", x.split(0, d[0], 1), d[2]);
        }
        due("of another box", x.split(1, 0, 0), STATE);
        x.second(0, 8);
        due("from 0 to 1", x.split(0, 1, 0), 4);
        due("from 1 to 0", x.split(0, 10, 1), 0);
        x.second(100, 2001001);
        due("split(100, 20, 0)", x.split(100, 20, 0), 0);
        due("split(100, 20, 1)", x.split(100, 20, 1), 2);
        due("split(100, 2, 1)", x.split(100, 2, 1), 1);
        for (int kl : new int[] {-1, 2, 12, 20, 9, 100, MAX, MIN}) due("split(0, " + kl + ", 0)", x.split(0, kl, 0), BAD);
        for (int what : new int[] {-1, 2, MAX}) due("split(0, 0, " + what + ")", x.split(0, 0, what), BAD);
        for (int at : new int[] {-1, 4, 101}) due("split(" + at + ", 0, 0)", x.split(at, 0, 0), BAD);
        due("BAD ahead of STATE", x.split(1, 0, 2), BAD);
    }

    private static void splits() {
        promise = "25 splits";
        VotedFor x = with(FOUR, "g2c3;2,2/1,1,2");
        due("splits(0, 0)", x.splits(0, 0), STATE);
        due("BAD ahead of STATE", x.splits(0, 2), BAD);
        x.second(0, 3005);
        due("splits(0, 0)", x.splits(0, 0), 1);
        due("splits(0, 1)", x.splits(0, 1), 7);
        x.second(0, 8000);
        due("splits(0, 0)", x.splits(0, 0), 4);
        due("splits(0, 1)", x.splits(0, 1), 4);
        x.second(0, 4004);
        due("splits(0, 0)", x.splits(0, 0), 0);
        due("splits(0, 1)", x.splits(0, 1), 8);
        x.second(100, 2001001);
        due("splits(100, 0)", x.splits(100, 0), 1);
        due("splits(100, 1)", x.splits(100, 1), 4);
        x.second(100, 3);
        due("not as many", x.splits(100, 1), 4);
        x.second(100, 4);
        due("splits(100, 0)", x.splits(100, 0), 2);
        due("splits(100, 1)", x.splits(100, 1), 2);
        due("splits(1, 0)", x.splits(1, 0), STATE);
        for (int what : new int[] {-1, 2, MAX}) due("splits(0, " + what + ")", x.splits(0, what), BAD);
        for (int at : new int[] {-1, 4, 101}) due("splits(" + at + ", 0)", x.splits(at, 0), BAD);
    }

    private static void changed() {
        promise = "26 changed";
        VotedFor x = with(FOUR, "g2c3;9,1/2,3,5;2,2/1,3,0;3,3/0,2,4;0,0/0,0,0");
        int[][] due = {{0, 0, 0}, {0, 1, 1}, {1, 0, 1}, {0, 2, 3}, {2, 0, 3}, {3, 0, 2}, {0, 3, 2}, {3, 3, 0},
            {100, 0, 0}, {100, 1, 1}, {101, 0, 1}, {100, 2, 3}, {102, 1, 2}, {101, 2, 2}, {100, 3, 0}, {103, 0, 0}};
        for (int[] d : due) due("changed(" + d[0] + ", " + d[1] + ")", x.changed(d[0], d[1]), d[2]);
        for (int last : new int[] {-1, 4, 12, 200, MAX, MIN}) due("changed(0, " + last + ")", x.changed(0, last), BAD);
        for (int at : new int[] {-1, 4, 104, 200, MIN}) due("changed(" + at + ", 0)", x.changed(at, 0), BAD);
    }

    private static void parted() {
        promise = "27 parted";
        VotedFor x = with(FOUR, "g3c2;4,3,1/6,2");
        int[][] due = {{0, 0, 2, 0, 2, 0, 3}, {0, 0, 5, 1, 4, 0, 0}, {0, 0, 0, 0, 0, 1, 4}, {3, 0, 5, 2, 5, 1, 4},
            {3, 1, 5, 0, 3, 0, 3}, {1, 11, 4, 1, 4, 0, 2}, {100, 10, 3, 1, 3, 0, 0}, {100, 0, 3, 1, 3, 0, 1}};
        for (int[] d : due) {
            for (int pw : new int[] {0, 1, 10, 11}) {
                due("parted(" + d[0] + ", " + d[1] + ", " + d[2] + ", " + pw + ")",
                    x.parted(d[0], d[1], d[2], pw), d[3 + pw / 10 * 2 + pw % 10]);
            }
        }
        for (int many : new int[] {-1, 6, MAX, MIN}) due("parted(0, 0, " + many + ", 0)", x.parted(0, 0, many, 0), BAD);
        for (int pw : new int[] {-1, 2, 9, 12, 20, 21, MAX, MIN}) due("parted(0, 0, 1, " + pw + ")", x.parted(0, 0, 1, pw), BAD);
        for (int cell : new int[] {-1, 2, 20}) due("parted(0, " + cell + ", 1, 0)", x.parted(0, cell, 1, 0), BAD);
        for (int at : new int[] {-1, 4, 101}) due("parted(" + at + ", 0, 0, 0)", x.parted(at, 0, 0, 0), BAD);
    }

    // ---- weights

    private static void weight() {
        promise = "28 weight";
        VotedFor x = with(FOUR, "g4c3");
        due("at first", x.weight(0, 0, 5), 0);
        due("then", x.weight(0, 0, -99), 5);
        due("then", x.weight(0, 0, 99), -99);
        due("100", x.weight(0, 0, 100), VOID);
        due("-100", x.weight(0, 0, -100), VOID);
        due("as it was", x.weight(0, 0, 0), 99);
        due("then", x.weight(0, 0, 1), 0);
        due("another cell", x.weight(0, 1, 1), 0);
        due("another matter", x.weight(1, 0, 1), 0);
        for (int g = 0; g < 4; g++) {
            for (int k = 0; k < 3; k++) {
                if (g + k > 0) due("weight(1, cell)", x.weight(1, 10 * g + k, 10 * g + k), 0);
            }
        }
        due("weight(1, 32, 0)", x.weight(1, 32, 0), 32);
        due("weight(1, 20, 0)", x.weight(1, 20, 0), 20);
        for (int v : new int[] {MAX, MIN}) due("weight(0, 0, " + v + ")", x.weight(0, 0, v), VOID);
        for (int cell : new int[] {-1, 2, 20, MIN}) due("weight(0, " + cell + ", 1)", x.weight(0, cell, 1), VOID);
        for (int m : new int[] {-1, 2, MAX}) due("weight(" + m + ", 0, 1)", x.weight(m, 0, 1), VOID);
    }

    private static void likeliestIs(VotedFor x, int at, int... cells) {
        int choices = x.of(at / 100, 1);
        for (int p = 0; p < cells.length; p++) {
            due("likeliest(" + at + ", place " + p + ")", x.likeliest(at, 10 * (p / choices) + p % choices), cells[p]);
        }
    }

    private static void likeliest() {
        promise = "29 likeliest";
        VotedFor x = with(FOUR, "g3c3;1,1,1/1,1,1", MANY);
        likeliestIs(x, 0, 1, 4, 3, 0);
        x.weight(0, 0, 1);
        likeliestIs(x, 0, 4, 1, 0, 3);
        x.weight(0, 1, 1);
        likeliestIs(x, 0, 1, 4, 3, 0);
        x.weight(0, 11, 2);
        likeliestIs(x, 0, 4, 1, 0, 3);
        likeliestIs(x, 1, 2, 0, 1, 5);
        x.weight(0, 11, -2);
        likeliestIs(x, 0, 1, 4, 3, 0);
        x.weight(1, 0, 9);
        likeliestIs(x, 100, 1, 0, 0, 0, 0, 1, 0, 1, 0);
        x.weight(1, 11, 1);
        likeliestIs(x, 100, 1, 0, 0, 0, 1, 0, 0, 0, 1);
        x.weight(1, 20, 20);
        likeliestIs(x, 100, 0, 0, 1, 0, 1, 0, 1, 0, 0);
        due("20004 tables", x.likeliest(200, 0), BIG);
        due("20000 tables", x.likeliest(201, 0), 0);
        x.weight(2, 0, 1);
        due("20000 tables", x.likeliest(201, 0), 20);
        for (int cell : new int[] {-1, 3, 30, MIN}) due("likeliest(200, " + cell + ")", x.likeliest(200, cell), BAD);
        for (int at : new int[] {-1, 4, 203, 300}) due("likeliest(" + at + ", 0)", x.likeliest(at, 0), BAD);
    }

    private static void weighs() {
        promise = "30 weighs";
        VotedFor x = with(FOUR, "g3c3;1,1,1/1,1,1", MANY);
        due("weighs(0, 0)", x.weighs(0, 0), 0);
        due("all have one", x.weighs(0, 1), NOT);
        x.weight(0, 0, 3);
        x.weight(0, 10, 1);
        due("weighs(0, 0)", x.weighs(0, 0), 12);
        due("weighs(0, 1)", x.weighs(0, 1), 2);
        due("weighs(2, 0)", x.weighs(2, 0), 1);
        due("but one table", x.weighs(2, 1), NOT);
        x.weight(0, 0, -3);
        x.weight(0, 1, -5);
        due("below 0", x.weighs(0, 0), -17);
        due("weighs(0, 1)", x.weighs(0, 1), 1);
        x.weight(0, 10, -2);
        due("all alike", x.weighs(3, 1), NOT);
        x.weight(1, 0, 7);
        x.weight(1, 22, 3);
        due("weighs(100, 0)", x.weighs(100, 0), 10);
        due("next of some alike", x.weighs(100, 1), 3);
        x.weight(1, 22, 0);
        due("two have the greatest", x.weighs(100, 0), 7);
        due("the next greater one", x.weighs(100, 1), 7);
        due("20004 tables", x.weighs(200, 0), BIG);
        due("20004 tables", x.weighs(200, 1), BIG);
        due("20000 tables", x.weighs(201, 1), NOT);
        for (int what : new int[] {-1, 2, MAX}) due("weighs(200, " + what + ")", x.weighs(200, what), VOID);
        for (int at : new int[] {-1, 4, 203, 300, MIN}) due("weighs(" + at + ", 0)", x.weighs(at, 0), VOID);
    }

    private static void chance() {
        promise = "31 chance";
        VotedFor x = with(FOUR, "g3c3;1,1,1/1,1,1", MANY);
        int[][] due = {{0, 0, 0, 1000}, {0, 0, 1, 1000}, {0, 0, 2, 750}, {0, 0, 3, 500}, {0, 0, 4, 250}, {0, 0, 5, 0},
            {0, 0, 999, 0}, {1, 0, 1, 666}, {1, 0, 2, 333}, {1, 11, 4, 666}, {2, 11, 3, 1000}, {2, 11, 4, 0},
            {100, 21, 1, 333}, {100, 21, 0, 1000}, {100, 21, 2, 0}};
        for (int[] d : due) due("chance(" + d[0] + ", " + d[1] + ", " + d[2] + ")", x.chance(d[0], d[1], d[2]), d[3]);
        due("20004 tables", x.chance(200, 0, 1), BIG);
        due("20000 tables", x.chance(201, 0, 0), 1000);
        for (int v : new int[] {-1, 1000, MAX, MIN}) due("chance(200, 0, " + v + ")", x.chance(200, 0, v), BAD);
        for (int cell : new int[] {-1, 2, 20, MIN}) due("chance(0, " + cell + ", 0)", x.chance(0, cell, 0), BAD);
        for (int at : new int[] {-1, 4, 203, 300}) due("chance(" + at + ", 0, 0)", x.chance(at, 0, 0), BAD);
    }

    // ---- acts, shelves

    private static VotedFor withKnowings() {
        VotedFor x = new VotedFor();
        for (int k = 0; k < 7; k++) due("knowing(" + k + ")", x.knowing(k), k);
        return x;
    }

    private static void knowing() {
        promise = "32 knowing";
        VotedFor x = withKnowings();
        for (int k : new int[] {-1, 7, MAX, MIN}) due("knowing(" + k + ")", x.knowing(k), BAD);
        for (int n = 7; n < 50; n++) due("knowing(1)", x.knowing(1), n);
        due("the 51st", x.knowing(1), FULL);
        due("BAD ahead of FULL", x.knowing(7), BAD);
        due("count(4)", x.count(4), 50);
        due("act(49, 2, 0)", x.act(49, 2, 0), 49);
        due("act(50, 2, 0)", x.act(50, 2, 0), 0);
        due("keep(0, 49)", x.keep(0, 49), 1);
        due("keep(0, 50)", x.keep(0, 50), BAD);
    }

    private static void act() {
        promise = "33 act";
        VotedFor x = withKnowings();
        int[][] due = {
            {0, 0, 5, -3, 2147483647}, {0, 1, 10, -6, -2}, {0, 2, 5, -3, 2147483647}, {0, 3, 9, -7, -3},
            {1, 0, 5, -3, 2147483647}, {1, 1, 10, -6, -2}, {1, 2, 4, -4, 2147483646}, {1, 3, 10, -6, -2},
            {2, 0, 6, -2, -2147483648}, {2, 1, 15, -1, 3}, {2, 2, 21, -3, 2147483639}, {2, 3, 6, -10, -6},
            {3, 0, 7, -1, -2147483647}, {3, 1, 18, 2, 6}, {3, 2, 18, -6, 2147483636}, {3, 3, 9, -7, 5},
            {4, 0, 8, 0, -2147483646}, {4, 1, -16, 0, -4}, {4, 2, 1, -7, 2147483643}, {4, 3, -21, -5, -9},
            {5, 0, 20, 4, 8}, {5, 1, 40, 8, 16}, {5, 2, 0, -8, 2147483642}, {5, 3, 36, 4, 12},
            {6, 0, 11, 3, -2147483643}, {6, 1, 22, 6, 10}, {6, 2, -11, -19, 2147483627}, {6, 3, 58, 26, 34}};
        int[] with = {5, -3, MAX};
        for (int[] d : due) {
            for (int i = 0; i < 3; i++) {
                due("act(" + d[0] + ", " + d[1] + ", " + with[i] + ")", x.act(d[0], d[1], with[i]), d[2 + i]);
            }
        }
        int[][] bad = {{-1, 0}, {7, 0}, {MAX, 1}, {MIN, 1}, {0, -1}, {0, 4}, {0, MAX}, {0, MIN}};
        for (int[] b : bad) {
            due("act(0, 0, 5)", x.act(0, 0, 5), 5);
            due("count(5)", x.count(5), 1);
            due("act(" + b[0] + ", " + b[1] + ", 5)", x.act(b[0], b[1], 5), 0);
            due("count(5)", x.count(5), 0);
            due("trace(0)", x.trace(0), BAD);
        }
    }

    private static void trace() {
        promise = "34 trace";
        VotedFor x = withKnowings();
        int[][] bodies = {
            {1}, {10, 1}, {11}, {2, 10, 1, 11},
            {20, 1}, {10, 20, 1}, {11}, {2, 10, 20, 1, 11},
            {20, 1}, {31, 10, 20, 1, 20, 1}, {30, 11}, {2, 31, 10, 20, 1, 20, 1, 30, 11},
            {20, 1}, {31, 10, 20, 1, 20, 1}, {30, 11}, {40, 2, 31, 10, 20, 1, 20, 1, 30, 11},
            {20, 1}, {50, 10, 20, 1}, {11}, {2, 50, 10, 20, 1, 11},
            {60, 20, 1}, {10, 60, 20, 1}, {11}, {2, 10, 60, 20, 1, 11},
            {1}, {10, 1}, {70, 11, 10, 1}, {71, 2, 10, 1, 70, 11, 10, 1}};
        for (int a = 0; a < bodies.length; a++) {
            x.act(a / 4, a % 4, 3);
            for (int i = 0; i < bodies[a].length; i++) due("act " + a + ", trace(" + i + ")", x.trace(i), bodies[a][i]);
            due("act " + a + ", trace behind", x.trace(bodies[a].length), BAD);
            due("act " + a + ", count(5)", x.count(5), bodies[a].length);
        }
        for (int i : new int[] {-1, 24, MAX, MIN}) due("trace(" + i + ")", x.trace(i), BAD);
        due("trace(7)", x.trace(7), 1);
    }

    private static void keep() {
        promise = "35 keep";
        VotedFor x = withKnowings();
        for (int s = 0; s < 6; s++) {
            due("keep(" + s + ", " + s + ")", x.keep(s, s), 1);
            due("taken(" + s + ", 0)", x.taken(s, 0), s);
        }
        due("keep(0, -1)", x.keep(0, -1), 1);
        due("taken(0, 0)", x.taken(0, 0), -11);
        due("keep(0, -1) again", x.keep(0, -1), 1);
        x.row(1, 2, 5);
        due("a knowing in a row's place", x.keep(1, 6), 1);
        due("put", x.put(1, 0, 1), -12);
        due("taken(1, 6)", x.taken(1, 6), 6);
        x.row(1, 2, 5);
        due("nothing in a row's place", x.keep(1, -1), 1);
        due("put", x.put(1, 0, 1), -11);
        for (int k : new int[] {-2, 7, MAX, MIN}) due("keep(2, " + k + ")", x.keep(2, k), BAD);
        for (int s : new int[] {-1, 6, MAX, MIN}) due("keep(" + s + ", 0)", x.keep(s, 0), BAD);
        for (int s : new int[] {-1, 6}) due("keep(" + s + ", -1)", x.keep(s, -1), BAD);
        due("taken(2, 2)", x.taken(2, 2), 2);
    }

    private static void row() {
        promise = "36 row";
        VotedFor x = new VotedFor();
        for (int sort = 0; sort < 5; sort++) {
            due("row(0, " + sort + ", 60)", x.row(0, sort, 60), 1);
            due("element(0, 0)", x.element(0, 0), 0);
            due("element(0, 59)", x.element(0, 59), 0);
            due("element(0, 60)", x.element(0, 60), Long.MIN_VALUE);
            due("put", x.put(0, 59, 1), 1);
        }
        due("row(0, 3, 2)", x.row(0, 3, 2), 1);
        elements(x, 0, 0, 0);
        due("row(0, 3, 60)", x.row(0, 3, 60), 1);
        due("anew all is 0", x.element(0, 59), 0);
        due("row(5, 0, 0)", x.row(5, 0, 0), 1);
        due("element(5, 0)", x.element(5, 0), Long.MIN_VALUE);
        x.row(0, 2, 3);
        x.put(0, 1, 8);
        for (int sort : new int[] {-1, 5, MAX, MIN}) due("row(0, " + sort + ", 1)", x.row(0, sort, 1), BAD);
        for (int n : new int[] {61, 100, MAX}) due("row(0, 0, " + n + ")", x.row(0, 0, n), BAD);
        for (int n : new int[] {-1, -60, MIN}) due("row(0, 0, " + n + ")", x.row(0, 0, n), -14);
        for (int s : new int[] {-1, 6, MAX, MIN}) due("row(" + s + ", 0, -1)", x.row(s, 0, -1), BAD);
        due("BAD ahead of -14", x.row(0, 5, -1), BAD);
        elements(x, 0, 0, 8, 0);
        x.knowing(0);
        x.keep(1, 0);
        due("a row in a knowing's place", x.row(1, 4, 1), 1);
        due("taken(1, 0)", x.taken(1, 0), -12);
    }

    private static void put() {
        promise = "37 put";
        VotedFor x = new VotedFor();
        rowOf(x, 0, 0, 127, 128, 255, 256, -129, 0x1234567890L);
        elements(x, 0, 127, -128, -1, 0, 127, -112);
        rowOf(x, 1, 1, 32767, 32768, 65535, 65536, -32769);
        elements(x, 1, 32767, -32768, -1, 0, 32767);
        rowOf(x, 2, 2, 2147483647L, 2147483648L, 4294967295L, 4294967296L, Long.MIN_VALUE);
        elements(x, 2, 2147483647L, -2147483648L, -1, 0, 0);
        rowOf(x, 3, 3, Long.MAX_VALUE, Long.MIN_VALUE, -1, 0);
        elements(x, 3, Long.MAX_VALUE, Long.MIN_VALUE, -1, 0);
        rowOf(x, 4, 4, 0, 1, 2, -1, 256, Long.MIN_VALUE);
        elements(x, 4, 0, 1, 1, 1, 1, 1);
        due("to false again", x.put(4, 1, 0), 1);
        due("element(4, 1)", x.element(4, 1), 0);
        for (int i : new int[] {-1, 4, 60, MAX, MIN}) due("put(3, " + i + ", 1)", x.put(3, i, 1), -13);
        for (int s : new int[] {-1, 6, MAX, MIN}) due("put(" + s + ", 0, 1)", x.put(s, 0, 1), BAD);
        due("on nothing", x.put(5, -1, 1), -11);
        x.knowing(0);
        x.keep(5, 0);
        due("on a knowing", x.put(5, -1, 1), -12);
    }

    private static void element() {
        promise = "38 element";
        VotedFor x = new VotedFor();
        rowOf(x, 0, 3, 5, -6, 7);
        elements(x, 0, 5, -6, 7);
        for (int i : new int[] {-1, 3, MAX, MIN}) due("element(0, " + i + ")", x.element(0, i), Long.MIN_VALUE);
        for (int s : new int[] {-1, 6, MAX, MIN}) due("element(" + s + ", 0)", x.element(s, 0), Long.MIN_VALUE);
        due("on nothing", x.element(1, 0), Long.MIN_VALUE);
        x.knowing(0);
        x.keep(1, 0);
        due("on a knowing", x.element(1, 0), Long.MIN_VALUE);
        x.keep(0, 0);
        due("on a knowing, where a row was", x.element(0, 0), Long.MIN_VALUE);
    }

    private static void shift() {
        promise = "39 shift";
        VotedFor x = new VotedFor();
        rowOf(x, 0, 2, 1, 2, 3, 4, 5);
        rowOf(x, 1, 2, 9, 8, 7);
        due("to another row", x.shift(0, 1, 1, 0, 3), 3);
        elements(x, 1, 2, 3, 4);
        elements(x, 0, 1, 2, 3, 4, 5);
        due("up the same row", x.shift(0, 0, 0, 1, 4), 4);
        elements(x, 0, 1, 1, 2, 3, 4);
        due("down the same row", x.shift(0, 1, 0, 0, 4), 4);
        elements(x, 0, 1, 2, 3, 4, 4);
        due("none", x.shift(0, 0, 1, 0, 0), 0);
        due("none, from behind the last", x.shift(0, 5, 1, 3, 0), 0);
        int[][] away = {{6, 0, 0}, {0, 4, 0}, {-1, 0, 0}, {0, -1, 0}, {5, 0, 1}, {0, 3, 1}, {0, 0, 4}, {3, 0, 3},
            {MAX, 0, 1}, {0, MAX, 1}, {0, 0, MAX}, {1, 1, MAX}, {MIN, 0, 1}, {0, MIN, 1}};
        for (int[] a : away) due("shift(0, " + a[0] + ", 1, " + a[1] + ", " + a[2] + ")", x.shift(0, a[0], 1, a[1], a[2]), -13);
        elements(x, 1, 2, 3, 4);
        for (int s : new int[] {-1, 6, MAX, MIN}) {
            due("shift from " + s, x.shift(s, 0, 0, 0, 1), BAD);
            due("shift to " + s, x.shift(0, 0, s, 0, 1), BAD);
            due("BAD ahead of -11", x.shift(2, 0, s, 0, 1), BAD);
        }
        due("from nothing", x.shift(2, -1, 0, 0, 1), -11);
        due("to nothing", x.shift(0, -1, 2, 0, 1), -11);
        x.knowing(0);
        x.keep(3, 0);
        due("from a knowing", x.shift(3, -1, 0, 0, 1), -12);
        due("to a knowing", x.shift(0, -1, 3, 0, 1), -12);
        due("knowing to itself", x.shift(3, 0, 3, 0, 0), -12);
        due("nothing ahead of a knowing", x.shift(3, 0, 2, 0, 1), -11);
        due("nothing ahead of a knowing", x.shift(2, 0, 3, 0, 1), -11);
        x.row(4, 3, 5);
        due("unlike sorts", x.shift(0, -1, 4, 0, 1), -12);
        due("unlike sorts, back", x.shift(4, 9, 0, 0, 1), -12);
        for (int sort = 0; sort < 5; sort++) {
            rowOf(x, 4, sort, 1, 0, 1);
            rowOf(x, 5, sort, 0, 0, 0, 0);
            due("of sort " + sort, x.shift(4, 0, 5, 1, 3), 3);
            elements(x, 5, 0, 1, 0, 1);
        }
    }

    private static void taken() {
        promise = "40 taken";
        VotedFor x = withKnowings();
        String[] under = {"0", "01", "012", "0123", "014", "015", "06"};
        for (int kind = 0; kind < 7; kind++) {
            x.keep(0, kind);
            for (int k = 0; k < 7; k++) {
                boolean is = under[kind].indexOf((char) ('0' + k)) >= 0;
                due("kind " + kind + ", taken(0, " + k + ")", x.taken(0, k), is ? kind : -12);
            }
        }
        for (int k : new int[] {-1, 7, MAX, MIN}) due("taken(0, " + k + ")", x.taken(0, k), BAD);
        for (int s : new int[] {-1, 6, MAX, MIN}) due("taken(" + s + ", 0)", x.taken(s, 0), BAD);
        due("nothing", x.taken(1, 3), -11);
        due("BAD ahead of nothing", x.taken(1, 7), BAD);
        x.row(1, 0, 3);
        due("a row", x.taken(1, 0), -12);
    }

    private static void boxes() {
        promise = "41 boxes";
        VotedFor x = with("g2c2;1,1/1,1", "g3c2");
        rowOf(x, 0, 1, 7, 2, 3, 4, 1, 99, 0, 0, 99, 0, 0, 0, 0, 5, 6, 6);
        due("three of a matter", x.boxes(0, 0, 1, 3), 3);
        due("of(0, 2)", x.of(0, 2), 4);
        int[] sums = {2, 3, 4, 1};
        int[] whats = {0, 1, 10, 11};
        for (int i = 0; i < 4; i++) due("sum(1, " + whats[i] + ")", x.sum(1, whats[i]), sums[i]);
        due("sum(2, 11)", x.sum(2, 11), 99);
        due("many(1)", x.many(1), 2);
        due("count(2)", x.count(2), 4);
        due("but one", x.boxes(0, 0, 1, 1), 1);
        due("by another matter's sums", x.boxes(1, 0, 2, 12), 0);
        rowOf(x, 1, 1, 1, 2, 3, 6, 0);
        due("by another matter's sums", x.boxes(1, 1, 0, 1), 1);
        due("sum(100, 2)", x.sum(100, 2), 3);
        for (int n : new int[] {0, -1, 13, MAX, MIN}) due("boxes(0, 0, 1, " + n + ")", x.boxes(0, 0, 1, n), BAD);
        for (int s : new int[] {-1, 6, MAX, MIN}) due("boxes(0, " + s + ", 0, 1)", x.boxes(0, s, 0, 1), BAD);
        for (int m : new int[] {-1, 2, MAX, MIN}) due("boxes(" + m + ", 0, 1, 1)", x.boxes(m, 0, 1, 1), BAD);
        due("nothing is missing", x.boxes(0, 5, 0, 1), 0);
        x.knowing(0);
        x.keep(5, 0);
        due("a knowing", x.boxes(0, 5, 0, 1), -12);
        for (int sort : new int[] {0, 2, 3, 4}) {
            x.row(5, sort, 20);
            due("a row of sort " + sort, x.boxes(0, 5, 0, 1), -12);
        }
        due("of(0, 2)", x.of(0, 2), 5);
    }

    private static void boxesEnd() {
        promise = "41 boxes, where it ends";
        VotedFor x = with("g2c2", "g2c2" + ";1,1/1,1".repeat(10));
        rowOf(x, 0, 1, 1, 1, 1, 1, 2, 2, 2, 2, 3, 3, 3);
        due("within a box", x.boxes(0, 0, 0, 12), 2);
        due("behind the row", x.boxes(0, 0, 11, 1), 0);
        due("far behind the row", x.boxes(0, 0, MAX, 12), 0);
        due("all of it", x.boxes(0, 0, 7, 1), 0);
        rowOf(x, 0, 1, 1, 1, 1, 1, 2, 2, 2, 1, 3, 3, 3, 3);
        due("one is uneven", x.boxes(0, 0, 0, 3), 1);
        rowOf(x, 0, 1, 1, 1, 1, 1, 100, 0, 50, 50, 3, 3, 3, 3);
        due("one above 99", x.boxes(0, 0, 0, 3), 1);
        rowOf(x, 0, 1, 1, 1, 1, 1, 3, -1, 1, 1, 3, 3, 3, 3);
        due("one below 0", x.boxes(0, 0, 0, 3), 1);
        rowOf(x, 0, 1, 1, 1, 3, -1);
        due("a choice below 0", x.boxes(0, 0, 0, 3), 0);
        due("of(0, 2)", x.of(0, 2), 5);
        rowOf(x, 0, 1, 1, 1, 1, 1, 2, 2, 2, 2, 3, 3, 3, 3);
        due("the matter is full", x.boxes(1, 0, 0, 3), 2);
        due("of(1, 2)", x.of(1, 2), 12);
        due("full at first", x.boxes(1, 0, 0, 1), 0);
        due("sum(111, 0)", x.sum(111, 0), 2);
        due("a box behind the twelfth", x.sum(112, 0), BAD);
    }

    private static void count() {
        promise = "42 count";
        VotedFor x = with(FOUR, "g2c2;1,1/1,1");
        x.feed(3, 0);
        x.knowing(2);
        x.knowing(3);
        rowOf(x, 0, 2, 1, 4, 3, 0);
        due("open", x.open(0, 0, 0), 1);
        rowOf(x, 0, 2, 1, 0, 0, 1);
        due("open", x.open(100, 0, 0), 1);
        x.act(1, 3, 5);
        int[] due = {2, 3, 5, 2, 2, 10};
        for (int what = 0; what < 6; what++) due("count(" + what + ")", x.count(what), due[what]);
        for (int what : new int[] {-1, 6, MAX, MIN}) due("count(" + what + ")", x.count(what), BAD);
        rowOf(x, 0, 1, 1, 1, 1, 1);
        x.boxes(1, 0, 0, 1);
        due("count(2)", x.count(2), 6);
        x.matter();
        due("count(1)", x.count(1), 0);
        due("count(0)", x.count(0), 2);
        x.act(0, 2, 5);
        due("count(5)", x.count(5), 2);
    }
}
