/** Promises 32 to 42 (acts, shelves): a test for each sentence that names an edge. */
public final class ShelfEdgesTest {
    /** Knowings 0 .. 6, each of the kind of its number. */
    private static final String SEVEN = "knowing(0) | knowing(1) | knowing(2) | knowing(3) | knowing(4) | knowing(5)"
        + " | knowing(6)";
    private static final String[] NO_SHELF = {"-1", "6", "60", "MIN", "MAX"};

    private static final Sentences s = new Sentences();

    public static void main(String[] args) {
        knowing();
        act();
        acts();
        trace();
        keep();
        row();
        put();
        putSorts();
        element();
        shift();
        shiftRefused();
        taken();
        boxes();
        boxesEnd();
        count();
        s.end();
    }

    private static void knowing() {
        s.promise("32 knowing");
        s.refuses("kind 0 .. 6", SEVEN, "knowing(%)", "BAD", "-1", "7", "MIN", "MAX");
        s.says("kind 0, the least: the first is 0", "knowing(0) = 0 | count(4) = 1");
        s.says("kind 6, the greatest", "knowing(6) = 0 | keep(0, 0) | taken(0, 6) = 6");
        s.says("the last is 49", "49 times knowing(1) | knowing(6) = 49 | count(4) = 50 | act(49, 0, 1) = 50");
        s.says("FULL: a 51st", "50 times knowing(1) | knowing(1) = FULL | count(4) = 50");
        s.says("BAD ahead of FULL", "50 times knowing(1) | knowing(7) = BAD | knowing(-1) = BAD");
        s.says("what is refused has no number", "knowing(7) = BAD | knowing(3) = 0");
    }

    private static void act() {
        s.promise("33 act");
        String ran = SEVEN + " | act(3, 3, 4) = 15 | count(5) = 10";
        for (String no : new String[] {"-1", "7", "50", "MIN", "MAX"}) {
            s.says("0, and no trace then: knowing " + no, ran, "act(" + no + ", 0, 5) = 0 | count(5) = 0 | trace(0) = BAD");
        }
        for (String no : new String[] {"-1", "4", "MIN", "MAX"}) {
            s.says("0, and no trace then: act " + no, ran, "act(1, " + no + ", 5) = 0 | count(5) = 0 | trace(0) = BAD");
        }
        s.says("0, and no trace then: no knowings at all", "act(0, 0, 5) = 0 | count(5) = 0 | trace(0) = BAD");
        s.says("the first and the last knowing", SEVEN, "act(0, 0, 5) = 5 | act(6, 0, 5) = 11");
        s.says("the least and the greatest act", SEVEN, "act(1, 0, 5) = 5 | act(1, 3, 5) = 10");
        s.says("x wraps: lets",
            SEVEN, "act(2, 0, MAX) = -2147483648 | act(1, 0, MIN) = -2147483648 | act(0, 0, MAX) = 2147483647");
        s.says("x wraps: lets of ENDS, down", "knowing(1) | act(0, 0, MIN) = 2147483647");
        s.says("x wraps: narrows", SEVEN, "act(0, 1, MAX) = -2 | act(0, 1, MIN) = 0 | act(0, 1, 0x40000000) = -2147483648");
        s.says("x wraps: proves times 3", SEVEN, "act(2, 2, MAX) = 2147483639 | act(2, 2, MIN) = -2147483642");
        s.says("x wraps: TWICE adds 1", SEVEN, "act(5, 0, MAX) = 8 | act(5, 0, MIN) = 10");
        s.says("x wraps: NESTED of the least", "knowing(4) | act(0, 1, -1073741823) = -2147483648");
        s.says("x wraps: TOLD takes off", SEVEN, "act(6, 2, MIN) = 2147483640");
        s.says("x wraps: tells", SEVEN, "act(0, 3, MAX) = -3 | act(0, 3, MIN) = -1");
        s.says("x below 0", SEVEN, "act(0, 2, -1) = -1 | act(1, 2, -1) = -2 | act(5, 0, -1) = 8");
    }

    private static void acts() {
        s.promise("33 act, whose bodies");
        s.says("KNOWING lets: 1", SEVEN, "act(0, 0, 5) = 5 | count(5) = 1 | trace(0) = 1");
        s.says("KNOWING narrows: 10", SEVEN, "act(0, 1, 5) = 10 | count(5) = 2 | trace(0) = 10 | trace(1) = 1");
        s.says("KNOWING proves: 11", SEVEN, "act(0, 2, 5) = 5 | count(5) = 1 | trace(0) = 11");
        s.says("KNOWING tells: 2",
            SEVEN, "act(0, 3, 5) = 9 | count(5) = 4 | trace(0) = 2 | trace(1) = 10 | trace(2) = 1 | trace(3) = 11");
        s.says("ENDS lets: 20, then 1", SEVEN, "act(1, 0, 5) = 5 | count(5) = 2 | trace(0) = 20 | trace(1) = 1");
        s.says("ENDS narrows: by its own lets", SEVEN, "act(1, 1, 5) = 10 | count(5) = 3 | trace(1) = 20");
        s.says("HELD lets: that of ENDS", SEVEN, "act(2, 0, 5) = 6 | count(5) = 2 | trace(0) = 20");
        s.says("HELD proves: 30, then 11", SEVEN, "act(2, 2, 5) = 21 | count(5) = 2 | trace(0) = 30 | trace(1) = 11");
        s.says("HELD narrows: 31, super, then lets of 2", SEVEN,
            "act(2, 1, 5) = 15 | count(5) = 6 | trace(0) = 31 | trace(1) = 10 | trace(2) = 20 | trace(3) = 1",
            "trace(4) = 20 | trace(5) = 1");
        s.says("LIKE tells: 40, then that of KNOWING by its own", SEVEN,
            "act(3, 3, 5) = 9 | count(5) = 10 | trace(0) = 40 | trace(1) = 2 | trace(2) = 31 | trace(8) = 30",
            "trace(9) = 11");
        s.says("LIKE proves and narrows: those of HELD",
            SEVEN, "act(3, 2, 5) = 18 | trace(0) = 30 | act(3, 1, 5) = 18 | trace(0) = 31");
        s.says("NESTED narrows: 50, then 10",
            SEVEN, "act(4, 1, 5) = -16 | count(5) = 4 | trace(0) = 50 | trace(1) = 10 | trace(2) = 20");
        s.says("NESTED proves: that of KNOWING", SEVEN, "act(4, 2, 5) = 1 | count(5) = 1 | trace(0) = 11");
        s.says("TWICE lets: 60, 20, 1",
            SEVEN, "act(5, 0, 5) = 20 | count(5) = 3 | trace(0) = 60 | trace(1) = 20 | trace(2) = 1");
        s.says("TWICE narrows: by its own lets", SEVEN, "act(5, 1, 5) = 40 | count(5) = 4 | trace(1) = 60");
        s.says("TOLD lets: that of KNOWING", SEVEN, "act(6, 0, 5) = 11 | count(5) = 1 | trace(0) = 1");
        s.says("TOLD proves: 70, super, then narrows of 1", SEVEN,
            "act(6, 2, 5) = -11 | count(5) = 4 | trace(0) = 70 | trace(1) = 11 | trace(2) = 10 | trace(3) = 1");
        s.says("TOLD tells: 71, then 2 by its own proves", SEVEN,
            "act(6, 3, 5) = 58 | count(5) = 8 | trace(0) = 71 | trace(1) = 2 | trace(2) = 10 | trace(4) = 70",
            "trace(7) = 1");
        s.says("n is its number, not its kind", "knowing(6) | knowing(6) | act(0, 0, 5) = 5 | act(1, 0, 5) = 6");
    }

    private static void trace() {
        s.promise("34 trace");
        String four = SEVEN + " | act(0, 3, 5) = 9";
        s.refuses("i of four", four, "trace(%)", "BAD", "-1", "4", "23", "24", "25", "MIN", "MAX");
        s.says("the first and the last", four, "trace(0) = 2 | trace(3) = 11");
        s.says("none ran", "trace(0) = BAD");
        s.says("the last of the most", SEVEN, "act(3, 3, 5) = 9 | trace(9) = 11 | trace(10) = BAD");
        s.says("of the latest act alone", SEVEN, "act(3, 3, 5) = 9 | act(0, 0, 5) = 5 | trace(0) = 1 | trace(1) = BAD");
        s.says("not of what was no act", four, "act(9, 0, 0) = 0 | trace(0) = BAD");
        s.says("other calls leave it", four, "knowing(9) = BAD | keep(0, 3) = 1 | matter() = -100 | trace(3) = 11");
    }

    private static void keep() {
        s.promise("35 keep");
        s.refuses("a shelf", SEVEN + " | keep(5, 3)", "keep(%, 0)", "BAD", NO_SHELF);
        s.refuses("a shelf, of nothing", SEVEN, "keep(%, -1)", "BAD", "-1", "6");
        s.refuses("a knowing", SEVEN + " | keep(0, 3)", "keep(0, %)", "BAD", "-2", "7", "50", "MIN", "MAX");
        s.refuses("a knowing, on a row", SEVEN + " | row 0 2: 5 6", "keep(0, %)", "BAD", "-2", "7");
        s.refuses("a knowing where there is none", "count(0)", "keep(0, %)", "BAD", "0", "-2");
        s.says("the first and the last shelf",
            SEVEN, "keep(0, 1) = 1 | keep(5, 2) = 1 | taken(0, 0) = 1 | taken(5, 0) = 2 | taken(1, 0) = -11");
        s.says("the first and the last knowing",
            "50 times knowing(4) | keep(0, 0) = 1 | keep(1, 49) = 1 | keep(1, 50) = BAD");
        s.says("-1: it holds nothing", SEVEN, "keep(0, 1) = 1 | keep(0, -1) = 1 | taken(0, 0) = -11");
        s.says("-1: it held nothing", "keep(0, -1) = 1 | taken(0, 0) = -11");
        s.says("-1 in the place of a row", "row 0 2: 5 | keep(0, -1) = 1 | put(0, 0, 1) = -11 | element(0, 0) = LEAST");
        s.says("a knowing in the place of a row",
            SEVEN, "row 0 2: 5 | keep(0, 6) = 1 | put(0, 0, 1) = -12 | taken(0, 6) = 6");
        s.says("one knowing on two shelves",
            SEVEN, "keep(0, 3) | keep(1, 3) | keep(0, -1) | taken(1, 3) = 3 | taken(0, 3) = -11");
    }

    private static void row() {
        s.promise("36 row");
        String held = "row 0 2: 0 8 0 | row 5 3: 7";
        s.refuses("a shelf", held, "row(%, 0, 1)", "BAD", NO_SHELF);
        s.refuses("sort 0 .. 4", held, "row(0, %, 1)", "BAD", "-1", "5", "MIN", "MAX");
        s.refuses("n above 60", held, "row(0, 0, %)", "BAD", "61", "100", "MAX");
        s.refuses("a size below 0", held, "row(0, 0, %)", "-14", "-1", "-60", "MIN");
        s.says("BAD ahead of -14: a shelf", held, "row(6, 0, -1) = BAD");
        s.says("BAD ahead of -14: a sort", held, "row(0, 5, -1) = BAD | row(0, -1, -1) = BAD");
        s.says("n 0, the least", "row(0, 0, 0) = 1 | put(0, 0, 1) = -13 | shift(0, 0, 0, 0, 0) = 0");
        s.says("n 60, the most", "row(0, 4, 60) = 1 | put(0, 59, 1) = 1 | put(0, 60, 1) = -13 | element(0, 59) = 1");
        s.says("n 1", "row(0, 3, 1) = 1 | element(0, 0) = 0 | put(0, 1, 1) = -13");
        s.says("sort 0, the least, and 4, the greatest",
            "row(0, 0, 1) = 1 | row(1, 4, 1) = 1 | put(0, 0, 300) | put(1, 0, 300) | element(0, 0) = 44",
            "element(1, 0) = 1");
        s.says("the first and the last shelf",
            "row(0, 2, 1) = 1 | row(5, 2, 1) = 1 | put(4, 0, 1) = -11 | put(5, 0, 1) = 1");
        s.says("0 at first", "row(0, 3, 60) = 1 | element(0, 0) = 0 | element(0, 59) = 0");
        s.says("false at first", "row(0, 4, 2) = 1 | element(0, 1) = 0");
        s.says("0 again at first",
            "row(0, 3, 60) | put(0, 0, 5) | put(0, 59, 5) | row(0, 3, 60) = 1 | element(0, 0) = 0 | element(0, 59) = 0");
        s.says("0 again behind a shorter one",
            "row(0, 3, 60) | put(0, 59, 5) | row(0, 3, 1) | row(0, 3, 60) = 1 | element(0, 59) = 0");
        s.says("in the place of a knowing", SEVEN, "keep(0, 1) | row(0, 4, 1) = 1 | taken(0, 1) = -12");
    }

    private static void put() {
        s.promise("37 put");
        String held = "row 0 2: 5 6 7";
        s.refuses("a shelf", held, "put(%, 0, 1)", "BAD", NO_SHELF);
        s.refuses("-13, a place", held, "put(0, %, 9)", "-13", "-1", "3", "59", "60", "MIN", "MAX");
        s.says("the first and the last element",
            held, "put(0, 0, 1) = 1 | put(0, 2, 3) = 1 | element(0, 0) = 1 | element(0, 1) = 6 | element(0, 2) = 3");
        s.says("-13: of a row of none", "row(0, 2, 0) | put(0, 0, 1) = -13");
        s.says("-11: nothing is there", "put(0, 0, 1) = -11 | put(5, 0, 1) = -11");
        s.says("-11 ahead of -13", "put(0, -1, 1) = -11");
        s.says("-12: a knowing", "knowing(0) | keep(0, 0) | put(0, 0, 1) = -12");
        s.says("-12 ahead of -13", "knowing(0) | keep(0, 0) | put(0, -1, 1) = -12");
        s.says("BAD ahead of all", "put(6, -1, 1) = BAD | put(-1, 0, 1) = BAD");
        s.says("one shelf is not another", "row 0 2: 5 | row 1 2: 6 | put(0, 0, 9) = 1 | element(1, 0) = 6");
    }

    private static void putSorts() {
        s.promise("37 put, its lowest bits");
        s.says("a byte: the greatest, one above it", "row 0 0: 127 128 | element(0, 0) = 127 | element(0, 1) = -128");
        s.says("a byte: the least, one below it", "row 0 0: -128 -129 | element(0, 0) = -128 | element(0, 1) = 127");
        s.says("a byte: 255 and 256", "row 0 0: 255 256 | element(0, 0) = -1 | element(0, 1) = 0");
        s.says("a byte: the least and the greatest long",
            "row 0 0: LEAST GREATEST | element(0, 0) = 0 | element(0, 1) = -1");
        s.says("a short: the greatest, one above it",
            "row 0 1: 32767 32768 | element(0, 0) = 32767 | element(0, 1) = -32768");
        s.says("a short: the least, one below it",
            "row 0 1: -32768 -32769 | element(0, 0) = -32768 | element(0, 1) = 32767");
        s.says("a short: 65535 and 65536", "row 0 1: 65535 65536 | element(0, 0) = -1 | element(0, 1) = 0");
        s.says("an int: the greatest, one above it",
            "row 0 2: 2147483647 2147483648 | element(0, 0) = 2147483647 | element(0, 1) = -2147483648");
        s.says("an int: the least, one below it",
            "row 0 2: -2147483648 -2147483649 | element(0, 0) = -2147483648 | element(0, 1) = 2147483647");
        s.says("an int: 2 times the half range", "row 0 2: 4294967295 4294967296 | element(0, 0) = -1 | element(0, 1) = 0");
        s.says("a long: the greatest and one above the least",
            "row 0 3: GREATEST -9223372036854775807 | element(0, 0) = 9223372036854775807",
            "element(0, 1) = -9223372036854775807");
        s.says("a long: the least", "row 0 3: LEAST | element(0, 0) = -9223372036854775808");
        s.says("a long: -1 and what is wider than an int",
            "row 0 3: -1 4294967296 | element(0, 0) = -1 | element(0, 1) = 4294967296");
        s.says("a boolean: 0 and 1", "row 0 4: 0 1 | element(0, 0) = 0 | element(0, 1) = 1");
        s.says("a boolean: not 0, whatever its lowest bit",
            "row 0 4: 2 -1 256 | element(0, 0) = 1 | element(0, 1) = 1 | element(0, 2) = 1");
        s.says("a boolean: not 0, the highest bit alone",
            "row 0 4: LEAST 4294967296 | element(0, 0) = 1 | element(0, 1) = 1");
        s.says("a boolean: 0 again", "row 0 4: 1 | put(0, 0, 0) = 1 | element(0, 0) = 0");
    }

    private static void element() {
        s.promise("38 element");
        String held = "row 0 3: 5 -6 7";
        s.refuses("a shelf", held, "element(%, 0)", "LEAST", NO_SHELF);
        s.refuses("a place", held, "element(0, %)", "LEAST", "-1", "3", "59", "60", "MIN", "MAX");
        s.says("the first and the last", held, "element(0, 0) = 5 | element(0, 1) = -6 | element(0, 2) = 7");
        s.says("of the longest row", "row(5, 3, 60) | put(5, 59, 8) | element(5, 59) = 8 | element(5, 60) = LEAST");
        s.says("-11: nothing is there", "element(0, 0) = LEAST");
        s.says("-12: a knowing", "knowing(0) | keep(0, 0) | element(0, 0) = LEAST");
        s.says("-12: a knowing in the place of a row", held, "knowing(0) | keep(0, 0) | element(0, 0) = LEAST");
        s.says("-13: of a row of none", "row(0, 3, 0) | element(0, 0) = LEAST");
        s.says("-13: of a shorter row", held, "row(0, 3, 1) | element(0, 0) = 0 | element(0, 1) = LEAST");
    }

    private static void shift() {
        s.promise("39 shift");
        String two = "row 0 2: 1 2 3 4 5 | row 1 2: 9 8 7";
        s.says("all of a row", two, "shift(1, 0, 0, 2, 3) = 3 | element(0, 1) = 2 | element(0, 2) = 9 | element(0, 4) = 7");
        s.says("one element, the last to the last", two, "shift(0, 4, 1, 2, 1) = 1 | element(1, 2) = 5 | element(1, 1) = 8");
        s.says("those that are left stay",
            two, "shift(0, 0, 1, 1, 1) = 1 | element(1, 0) = 9 | element(1, 1) = 1 | element(1, 2) = 7 | element(0, 0) = 1");
        s.says("the same row, up: as they all were before", two,
            "shift(0, 0, 0, 1, 4) = 4 | element(0, 0) = 1 | element(0, 1) = 1 | element(0, 2) = 2",
            "element(0, 3) = 3 | element(0, 4) = 4");
        s.says("the same row, down: as they all were before", two,
            "shift(0, 1, 0, 0, 4) = 4 | element(0, 0) = 2 | element(0, 1) = 3 | element(0, 2) = 4",
            "element(0, 3) = 5 | element(0, 4) = 5");
        s.says("the same row, the same place", two, "shift(0, 0, 0, 0, 5) = 5 | element(0, 0) = 1 | element(0, 4) = 5");
        s.says("n 0, within", two, "shift(0, 1, 1, 1, 0) = 0 | element(1, 1) = 8");
        s.says("n 0, just at the end of either", two, "shift(0, 5, 1, 3, 0) = 0");
        s.says("n 0, rows of none", "row(0, 2, 0) | row(1, 2, 0) | shift(0, 0, 1, 0, 0) = 0 | shift(0, 0, 1, 0, 1) = -13");
        s.says("the longest rows",
            "row(0, 3, 60) | row(5, 3, 60) | put(0, 59, 6) | shift(0, 0, 5, 0, 60) = 60 | element(5, 59) = 6",
            "shift(0, 0, 5, 0, 61) = -13");
        for (int sort = 0; sort < 5; sort++) {
            s.says("of sort " + sort, "row 0 " + sort + ": 1 0 1 | row 5 " + sort + ": 0 1 0 0",
                "shift(0, 0, 5, 1, 3) = 3 | element(5, 0) = 0 | element(5, 1) = 1 | element(5, 2) = 0 | element(5, 3) = 1");
        }
    }

    private static void shiftRefused() {
        s.promise("39 shift, refused");
        String two = "row 0 2: 1 2 3 4 5 | row 1 2: 9 8 7 | row 2 3: 6 6 6 6 | knowing(1) | keep(3, 0)";
        s.refuses("a shelf", two, "shift(%, 0, 1, 0, 1)", "BAD", NO_SHELF);
        s.refuses("the other shelf", two, "shift(0, 0, %, 0, 1)", "BAD", NO_SHELF);
        s.refuses("-13: place i", two, "shift(0, %, 1, 0, 1)", "-13", "-1", "5", "6", "MIN", "MAX");
        s.refuses("-13: place j", two, "shift(0, 0, 1, %, 1)", "-13", "-1", "3", "4", "MIN", "MAX");
        s.refuses("-13 with n 0, too: i above how many there are", two, "shift(0, %, 1, 0, 0)", "-13", "-1", "6", "MIN", "MAX");
        s.refuses("-13 with n 0, too: j above how many there are", two, "shift(0, 0, 1, %, 0)", "-13", "-1", "4", "MIN", "MAX");
        s.refuses("-13: one more than are from i on", two, "shift(0, 3, 1, 0, %)", "-13", "3", "MAX");
        s.refuses("-13: one more than are from j on", two, "shift(0, 0, 1, 1, %)", "-13", "3", "MAX");
        s.says("-13: the sums of places wrap", two, "shift(0, 1, 1, 1, MAX) = -13 | shift(0, MAX, 1, MAX, MAX) = -13");
        s.says("-13: none of those come that have room", two, "shift(0, 0, 1, 0, 4) = -13 | element(1, 0) = 9");
        s.says("-11: nothing on the one", two, "shift(4, 0, 0, 0, 1) = -11");
        s.says("-11: nothing on the other", two, "shift(0, 0, 4, 0, 1) = -11");
        s.says("-11: nothing on either", two, "shift(4, 0, 5, 0, 1) = -11 | shift(4, 0, 4, 0, 0) = -11");
        s.says("-12: a knowing on the one", two, "shift(3, 0, 0, 0, 1) = -12");
        s.says("-12: a knowing on the other", two, "shift(0, 0, 3, 0, 1) = -12");
        s.says("-12: a knowing and itself", two, "shift(3, 0, 3, 0, 0) = -12");
        s.says("-12: unlike sorts, though what comes would fit",
            two, "shift(0, 0, 2, 0, 1) = -12 | shift(2, 0, 0, 0, 0) = -12");
        s.says("-12: bytes and booleans", "row(0, 0, 3) | row(1, 4, 3) | shift(0, 0, 1, 0, 3) = -12");
        s.says("-11 ahead of -12: nothing on the other", two, "shift(3, 0, 4, 0, 1) = -11");
        s.says("-11 ahead of -12: nothing on the one", two, "shift(4, 0, 3, 0, 1) = -11");
        s.says("-11 ahead of -13", two, "shift(0, -1, 4, 0, 1) = -11 | shift(4, -1, 0, 0, 1) = -11");
        s.says("-12 ahead of -13: a knowing", two, "shift(0, -1, 3, 0, 1) = -12 | shift(3, 9, 0, 0, 1) = -12");
        s.says("-12 ahead of -13: unlike sorts", two, "shift(0, -1, 2, 0, 1) = -12 | shift(0, 0, 2, 0, 99) = -12");
        s.says("BAD ahead of -11", two, "shift(4, 0, 6, 0, 1) = BAD | shift(-1, 0, 4, 0, 1) = BAD");
        s.says("BAD ahead of -12", two, "shift(3, 0, 6, 0, 1) = BAD");
        s.says("BAD ahead of -13", two, "shift(0, -1, 6, 0, 1) = BAD");
    }

    private static void taken() {
        s.promise("40 taken");
        String held = SEVEN + " | keep(0, 3) | row(1, 0, 3)";
        s.refuses("a shelf", held, "taken(%, 0)", "BAD", NO_SHELF);
        s.refuses("kind 0 .. 6", held, "taken(0, %)", "BAD", "-1", "7", "MIN", "MAX");
        s.says("-11: nothing is there", held, "taken(2, 0) = -11 | taken(5, 6) = -11");
        s.says("-12: a row", held, "taken(1, 0) = -12");
        s.says("-12: a row of none", "row(0, 3, 0) | taken(0, 0) = -12");
        s.says("BAD ahead of -11", held, "taken(2, 7) = BAD | taken(2, -1) = BAD");
        s.says("BAD ahead of -12", held, "taken(1, 7) = BAD");
        String[] under = {"0", "01", "012", "0123", "014", "015", "06"};
        for (int kind = 0; kind < 7; kind++) {
            for (int k = 0; k < 7; k++) {
                boolean is = under[kind].indexOf('0' + k) >= 0;
                s.says((is ? "its kind: " : "-12: ") + kind + " for one of kind " + k,
                    SEVEN, "keep(4, " + kind + ") | taken(4, " + k + ") = " + (is ? kind : -12));
            }
        }
        s.says("its kind, not its number", "knowing(6) | knowing(2) | keep(0, 1) | taken(0, 1) = 2");
    }

    private static void boxes() {
        s.promise("41 boxes");
        String row = "told g2c2;1,1/1,1 | row 0 1: 7 2 3 4 1 99 0 0 99";
        s.refuses("a matter", row, "boxes(%, 0, 1, 1)", "BAD", "-1", "1", "4", "MIN", "MAX");
        s.refuses("a shelf", row, "boxes(0, %, 1, 1)", "BAD", NO_SHELF);
        s.refuses("n 1 .. 12", row, "boxes(0, 0, 1, %)", "BAD", "0", "-1", "13", "MIN", "MAX");
        s.says("n 1, the least", row, "boxes(0, 0, 1, 1) = 1 | of(0, 2) = 2 | sum(1, 0) = 2 | sum(1, 11) = 1");
        s.says("n 12, the most", "told g2c2 | row(0, 1, 48) | boxes(0, 0, 0, 12) = 12 | of(0, 2) = 12");
        s.says("n more than there are", row, "boxes(0, 0, 1, 3) = 2 | of(0, 2) = 3");
        s.says("99 each is the most", row, "boxes(0, 0, 5, 1) = 1 | sum(1, 0) = 99 | sum(1, 11) = 99 | many(1) = 1");
        s.says("0 each is the least", "told g2c3 | row(0, 1, 5) | boxes(0, 0, 0, 1) = 1 | sum(0, 20) = 0 | many(0) = 1");
        s.says("by group, then by choice",
            "told g3c2 | row 0 1: 1 2 3 6 0 | boxes(0, 0, 0, 1) = 1 | sum(0, 2) = 3 | sum(0, 10) = 6 | sum(0, 11) = 0");
        s.says("of four groups and three choices",
            "told g4c3 | row 0 1: 1 2 3 4 5 4 1 | boxes(0, 0, 0, 1) = 1 | sum(0, 3) = 4 | sum(0, 12) = 1");
        s.says("-12: a knowing", row, "knowing(0) | keep(1, 0) | boxes(0, 1, 0, 1) = -12");
        for (int sort : new int[] {0, 2, 3, 4}) {
            s.says("-12: a row of sort " + sort, row, "row(1, " + sort + ", 20) | boxes(0, 1, 0, 1) = -12 | of(0, 2) = 1");
        }
        s.says("0, not -11: a shelf that holds nothing is missing", row, "boxes(0, 1, 0, 1) = 0 | of(0, 2) = 1");
        s.says("BAD ahead of -12",
            row, "row(1, 2, 20) | boxes(0, 1, 0, 0) = BAD | boxes(0, 1, 0, 13) = BAD | boxes(1, 1, 0, 1) = BAD");
        s.says("BAD ahead of a missing row", row, "boxes(0, 1, 0, 13) = BAD | boxes(4, 1, 0, 1) = BAD");
        s.says("-12, though the matter is full",
            "told g2c2" + ";1,1/1,1".repeat(12), "row(0, 2, 4) | boxes(0, 0, 0, 1) = -12");
        s.says("what came is as if it was told", row, "boxes(0, 0, 1, 1) = 1",
            "many(1) = 2 | ends(1, 0, 0) = 1 | ends(1, 0, 1) = 2 | hold(0, 2, 0, 1, 0) = 0 | by(0, 1, 0, 1) = 2",
            "count(2) = 2");
    }

    private static void boxesEnd() {
        s.promise("41 boxes, where it ends");
        s.says("just at the end of the row", "told g2c2 | row 0 1: 1 1 1 1 2 2 2 2 | boxes(0, 0, 0, 12) = 2");
        s.says("within a box, one too few", "told g2c2 | row 0 1: 1 1 1 1 2 2 2 | boxes(0, 0, 0, 12) = 1 | of(0, 2) = 1");
        s.says("within a box, one of it", "told g2c2 | row 0 1: 1 1 1 1 2 | boxes(0, 0, 0, 12) = 1");
        s.says("within the first", "told g2c2 | row 0 1: 1 1 1 | boxes(0, 0, 0, 1) = 0 | of(0, 2) = 0");
        s.says("a row of none", "told g2c2 | row(0, 1, 0) | boxes(0, 0, 0, 1) = 0");
        s.says("a place just behind the row",
            "told g2c2 | row 0 1: 1 1 1 1 | boxes(0, 0, 4, 1) = 0 | boxes(0, 0, 0, 1) = 1");
        s.says("a place above it, sums that wrap",
            "told g2c2 | row 0 1: 1 1 1 1 | boxes(0, 0, 5, 1) = 0 | boxes(0, 0, MAX, 12) = 0",
            "boxes(0, 0, 2147483644, 12) = 0");
        s.says("a place below 0",
            "told g2c2 | row 0 1: 1 1 1 1 | boxes(0, 0, -1, 1) = 0 | boxes(0, 0, MIN, 12) = 0 | of(0, 2) = 0");
        s.says("the last place of the longest row",
            "told g2c2 | row(0, 1, 60) | boxes(0, 0, 56, 1) = 1 | boxes(0, 0, 57, 1) = 0");
        s.says("one is uneven: those ahead came, none behind",
            "told g2c2 | row 0 1: 1 1 1 1 2 2 2 1 3 3 3 3 | boxes(0, 0, 0, 3) = 1 | of(0, 2) = 1");
        s.says("one is above 99: by group", "told g2c2 | row 0 1: 1 1 1 1 100 0 50 50 3 3 3 3 | boxes(0, 0, 0, 3) = 1");
        s.says("one is above 99: by choice", "told g2c2 | row 0 1: 1 1 1 1 50 50 0 100 3 3 3 3 | boxes(0, 0, 0, 3) = 1");
        s.says("one is below 0: by group", "told g2c2 | row 0 1: 1 1 1 1 3 -1 1 1 3 3 3 3 | boxes(0, 0, 0, 3) = 1");
        s.says("one is below 0: by choice", "told g2c2 | row 0 1: 1 1 1 1 1 1 3 -1 3 3 3 3 | boxes(0, 0, 0, 3) = 1");
        s.says("the first is not so",
            "told g2c2 | row 0 1: 1 1 1 2 3 3 3 3 | boxes(0, 0, 0, 2) = 0 | of(0, 2) = 0 | count(2) = 0");
        s.says("the matter is full: those ahead came",
            "told g2c2" + ";1,1/1,1".repeat(10), "row 0 1: 1 1 1 1 2 2 2 2 3 3 3 3",
            "boxes(0, 0, 0, 3) = 2 | of(0, 2) = 12 | sum(11, 0) = 2 | sum(12, 0) = BAD");
        s.says("the matter is full at first",
            "told g2c2" + ";1,1/1,1".repeat(12), "row 0 1: 1 1 1 1 | boxes(0, 0, 0, 1) = 0 | of(0, 2) = 12");
        s.says("again and again, till it is full",
            "told g2c2 | row(0, 1, 28) | boxes(0, 0, 0, 7) = 7 | boxes(0, 0, 0, 7) = 5 | boxes(0, 0, 0, 7) = 0",
            "of(0, 2) = 12");
    }

    private static void count() {
        s.promise("42 count");
        s.refuses("what 0 .. 5", SEVEN, "count(%)", "BAD", "-1", "6", "10", "MIN", "MAX");
        s.says("what 0: matters, none and the most",
            "count(0) = 0 | told g2c2 | told g2c2 | told g2c2 | told g2c2 | count(0) = 4 | matter() = FULL | count(0) = 4");
        s.says("what 1: bytes, none and the most",
            "count(1) = 0 | 50 times feed(4, 0) | count(1) = 200 | matter() = -100 | count(1) = 0");
        s.says("what 2: boxes of all, none and some",
            "told g2c2 | count(2) = 0 | told g2c2;1,1/1,1;1,1/1,1 | told g2c2;1,1/1,1 | count(2) = 3");
        s.says("what 2: boxes of all, the most", ("told g2c2" + ";1,1/1,1".repeat(12) + " | ").repeat(4) + "count(2) = 48");
        s.says("what 2: boxes from a row", "told g2c2 | row(0, 1, 8) | boxes(0, 0, 0, 2) = 2 | count(2) = 2");
        s.says("what 3: opened ones of all", "told g2c2;1,1/1,1;1,1/1,1 | told g2c2;1,1/1,1 | row 0 2: 1 0 0 1",
            "count(3) = 0 | open(1, 0, 0) = 1 | count(3) = 1 | open(100, 0, 0) = 1 | count(3) = 2",
            "open(100, 0, 0) = STATE | count(3) = 2");
        s.says("what 4: knowings, none and the most",
            "count(4) = 0 | 50 times knowing(0) | count(4) = 50 | knowing(0) = FULL | count(4) = 50");
        s.says("what 5: bodies of the latest act, none and the most",
            SEVEN, "count(5) = 0 | act(3, 3, 1) | count(5) = 10 | act(0, 0, 1) | count(5) = 1");
        s.says("what 5: none where there was no act", SEVEN, "act(3, 3, 1) | act(7, 3, 1) = 0 | count(5) = 0");
    }
}
