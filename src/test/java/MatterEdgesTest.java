/** Promises 1 to 15 (matters, ends): a test for each sentence that names an edge. */
public final class MatterEdgesTest {
    /**
     * Tables of its boxes: 0: 1,4/3,0 2,3/2,1 3,2/1,2 4,1/0,3; 1: 0,2/3,3 1,1/2,4 2,0/1,5; 2: 0,0/1,3; 3: 6,3/0,0.
     */
    private static final String FOUR = "told g2c2;5,3/4,4;2,6/3,5;0,4/1,3;9,0/6,3";
    private static final String LARGEST = "told g4c3;75,74,74,74/99,99,99";
    private static final String SIX = "told g3c3;1,1,1/1,1,1";
    private static final String TWELVE = "told g2c2" + ";1,1/1,1".repeat(11) + ";2,1/1,2";
    private static final String FOUR_MATTERS = "told g2c2 | told g2c2 | told g2c2 | told g4c3;1,0,2,3/3,2,1";
    private static final String[] NO_BOX = {"-1", "-100", "MIN", "4", "99", "100", "400", "MAX"};
    private static final String[] NO_MATTER = {"-1", "MIN", "1", "4", "100", "MAX"};
    private static final String[] NO_CELL = {"-1", "-10", "MIN", "2", "9", "12", "20", "100", "MAX"};
    private static final String[] NO_END = {"-1", "2", "10", "MIN", "MAX"};

    private static final Sentences s = new Sentences();

    public static void main(String[] args) {
        newObject();
        feed();
        matterNumber();
        matterFault();
        matterUneven();
        matterFull();
        of();
        sum();
        many();
        table();
        drawn();
        may();
        mayRefused();
        open();
        ends();
        inAll();
        sure();
        next();
        opens();
        s.end();
    }

    private static void newObject() {
        s.promise("1 a new object");
        s.says("no matters", "count(0) = 0 | of(0, 0) = BAD | of(3, 3) = BAD");
        s.says("no boxes", "count(2) = 0 | sum(0, 20) = BAD | many(0) = BAD");
        s.says("no opened boxes", "count(3) = 0");
        s.says("nothing on the tape", "count(1) = 0 | matter() = -100");
        s.says("no knowings", "count(4) = 0 | keep(0, 0) = BAD | act(0, 0, 9) = 0");
        s.says("no trace", "count(5) = 0 | trace(0) = BAD");
        for (int shelf = 0; shelf < 6; shelf++) {
            s.says("shelf " + shelf + " holds nothing", "taken(" + shelf + ", 0) = -11 | put(" + shelf + ", 0, 1) = -11");
        }
        s.says("no line", "line(0, 0) = VOID | wrong(0, -1) = BAD");
        String[] nothingYet = {"of(0, 0) = BAD", "sum(0, 20) = BAD", "many(0) = BAD", "table(0, 0, 0) = BAD", "drawn(0, 0, 0) = BAD",
            "may(0, 0, 0) = BAD", "open(0, 0, 0) = BAD", "ends(0, 0, 0) = BAD", "inAll(0, 0, 0) = VOID", "sure(0, 0) = BAD",
            "next(0, 0) = BAD", "opens(0, 0, 0) = BAD", "hold(0, 0, 0, 0, 0) = BAD", "by(0, 0, 0, 0) = BAD", "none(0, 0) = BAD",
            "claim(0, 0, 0, 0) = BAD", "must(0, 0, 0, 0) = BAD", "line(0, 0) = VOID", "wrong(0, -1) = BAD", "second(0, 0) = BAD",
            "split(0, 0, 0) = BAD", "splits(0, 0) = BAD", "changed(0, 0) = BAD", "parted(0, 0, 0, 0) = BAD", "weight(0, 0, 1) = VOID",
            "likeliest(0, 0) = BAD", "weighs(0, 0) = VOID", "chance(0, 0, 0) = BAD", "act(0, 0, 1) = 0", "trace(0) = BAD",
            "keep(0, 0) = BAD", "put(0, 0, 1) = -11", "element(0, 0) = LEAST", "shift(0, 0, 1, 0, 0) = -11", "taken(0, 0) = -11",
            "boxes(0, 0, 0, 1) = BAD"};
        for (String call : nothingYet) s.says("nothing is there yet: " + call, call);
        s.says("the first of each is 0", "told g2c2;1,1/1,1 | of(0, 2) = 1 | hold(0, 0, 0, 0, 1) = 0 | knowing(0) = 0");
    }

    private static void feed() {
        s.promise("2 feed");
        s.refuses("n 1 .. 4", "tape gg", "feed(%, 103)", "BAD", "0", "5", "-1", "8", "MIN", "MAX");
        s.says("n 1, the least: the lowest byte alone comes", "feed(1, 0x7f3f1f67) = 1 | tape 2c2 | matter() = 0");
        s.says("n 2: two bytes come", "feed(2, 0x55553267) = 2 | tape c2 | matter() = 0");
        s.says("n 3: three bytes come", "feed(3, 0x7f633267) = 3 | tape 2 | matter() = 0");
        s.says("n 4, the most: four bytes come", "feed(4, 0x32633267) = 4 | matter() = 0");
        s.says("the lowest of v first", "feed(2, 0x6732) = 2 | tape c2 | matter() = -100");
        s.says("bytes are 0 .. 255: the highest of a v below 0 is no sign", "feed(4, -1302121881) = 4 | matter() = -103");
        s.says("bytes are 0 .. 255: 0 is one, too", "tape g2c2 | feed(1, 0) = 5 | matter() = -104");
        s.says("how many it has, not how many came", "feed(3, 0) = 3 | feed(4, 0) = 7 | feed(1, 0) = 8 | count(1) = 8");
        s.says("the last four that have room", "49 times feed(4, 0) | feed(4, 0) = 200");
        s.says("the last one that has room", "49 times feed(4, 0) | feed(3, 0) | feed(1, 0) = 200 | count(1) = 200");
        s.says("FULL: no room for one", "50 times feed(4, 0) | feed(1, 0) = FULL");
        s.says("FULL: room for one, not for two", "49 times feed(4, 0) | feed(3, 0) | feed(2, 0) = FULL");
        s.says("FULL: room for three, not for four", "49 times feed(4, 0) | feed(1, 0) | feed(4, 0) = FULL");
        s.says("FULL: none of those come that have room",
            "49 times feed(4, 0) | feed(3, 0) | feed(4, 0) = FULL | count(1) = 199 | feed(1, 0) = 200");
        s.says("BAD ahead of FULL", "50 times feed(4, 0) | feed(5, 0) = BAD | feed(0, 0) = BAD");
        s.says("behind a matter there is room again", "50 times feed(4, 0) | matter() = -100 | feed(4, 0) = 4");
    }

    private static void matterNumber() {
        s.promise("3 matter, its number");
        s.says("the first is 0", "tape g2c2 | matter() = 0 | count(0) = 1");
        s.says("the last is 3", "told g2c2 | told g2c2 | told g2c2 | tape g4c3 | matter() = 3 | of(3, 0) = 4");
        s.says("the tape is empty then", "tape g2c2;1,1/1,1 | matter() = 0 | count(1) = 0 | matter() = -100");
        s.says("no box is there, if none is told", "tape g2c2 | matter() = 0 | of(0, 2) = 0 | sum(0, 20) = BAD");
        s.says("a matter is not less for the one behind it",
            FOUR, "told g4c3", "of(0, 0) = 2 | of(0, 2) = 4 | sum(3, 10) = 6");
    }

    private static void matterFault() {
        s.promise("3 matter, -100 less its fault");
        s.says("the least: an empty tape", "matter() = -100 | count(0) = 0");
        s.says("the most: 200 bytes that end too early",
            "tape g4c3" + ";10,10,10,10/20,10,10".repeat(9) + ";1,1,1,", "count(1) = 200 | matter() = -300");
        s.says("the last of 200 bytes",
            "tape g4c3" + ";10,10,10,10/20,10,10".repeat(9) + ";1,1,1x", "count(1) = 200 | matter() = -299");
        s.says("the tape is empty then", "tape g2c2;1,1/1,1; | matter() = -113 | count(1) = 0 | matter() = -100");
        s.says("nothing of the text comes",
            "tape g2c2;1,1/1,1; | matter() = -113 | count(0) = 0 | count(2) = 0 | of(0, 0) = BAD");
        s.says("the number is for the next", "tape g2 | matter() = -102 | tape g2c2 | matter() = 0");
        s.says("nothing is left of it for a shorter text",
            "tape g2c2;1,1/1,1;1 | matter() = -114 | tape g2c2;1 | matter() = -106");
        s.says("ahead of an uneven box, whatever comes first", "tape g2c2;1,1/1,2;x | matter() = -113");
    }

    private static void matterUneven() {
        s.promise("3 matter, -400 less the first uneven box");
        s.says("the least: box 0", "tape g2c2;1,1/1,2 | matter() = -400");
        s.says("the most: box 11", "tape g2c2" + ";1,1/1,1".repeat(11) + ";1,1/1,0", "matter() = -411");
        s.says("the first of several", "tape g2c2;1,1/1,1;1,2/1,1;0,0/9,9 | matter() = -401");
        s.says("one more by choice", "tape g2c2;50,49/50,50 | matter() = -400");
        s.says("one more by group", "tape g2c3;50,50/50,49,0 | matter() = -400");
        s.says("alike is not uneven", "tape g2c3;50,50/50,49,1 | matter() = 0");
        s.says("no people are not uneven", "tape g4c3;0,0,0,0/0,0,0 | matter() = 0");
        s.says("the tape is empty then", "tape g2c2;1,1/1,2 | matter() = -400 | count(1) = 0 | matter() = -100");
        s.says("nothing of the text comes", "tape g2c2;1,1/1,1;1,1/1,2 | matter() = -401 | count(0) = 0 | count(2) = 0");
        s.says("the number is for the next", "tape g2c2;1,1/1,2 | matter() = -400 | tape g2c2 | matter() = 0");
    }

    private static void matterFull() {
        s.promise("3 matter, FULL");
        s.says("a fifth is one too many", FOUR_MATTERS, "tape g2c2;1,1/1,1 | matter() = FULL | count(0) = 4");
        s.says("the tape stays", FOUR_MATTERS, "tape g2c2;1,1/1,1 | matter() = FULL | count(1) = 12 | feed(1, 0) = 13");
        s.says("ahead of a fault", FOUR_MATTERS, "tape zz | matter() = FULL | count(1) = 2");
        s.says("ahead of the fault of an empty tape", FOUR_MATTERS, "matter() = FULL | count(1) = 0");
        s.says("ahead of an uneven box", FOUR_MATTERS, "tape g2c2;1,1/1,2 | matter() = FULL | count(1) = 12");
        s.says("again and again", FOUR_MATTERS, "tape g2c2 | matter() = FULL | matter() = FULL | count(1) = 4");
        s.says("uneven boxes and faults do not count",
            "tape g2 | matter() = -102 | tape g2c2;0,0/0,1 | matter() = -400", FOUR_MATTERS, "count(0) = 4",
            "matter() = FULL");
    }

    private static void of() {
        s.promise("4 of");
        s.refuses("a matter", FOUR, "of(%, 0)", "BAD", NO_MATTER);
        s.refuses("what 0 .. 3", FOUR, "of(0, %)", "BAD", "-1", "4", "10", "MIN", "MAX");
        s.refuses("a matter, of four", FOUR_MATTERS, "of(%, 2)", "BAD", "-1", "4");
        s.says("the last matter of four", FOUR_MATTERS, "of(3, 0) = 4 | of(3, 1) = 3 | of(3, 2) = 1 | of(3, 3) = 0");
        s.says("what 0: groups, the least and the most", "told g2c3 | told g4c2 | of(0, 0) = 2 | of(1, 0) = 4");
        s.says("what 1: choices, the least and the most", "told g4c2 | told g2c3 | of(0, 1) = 2 | of(1, 1) = 3");
        s.says("what 2: boxes, none and the most", "told g2c2", TWELVE, "of(0, 2) = 0 | of(1, 2) = 12");
        s.says("what 3: held things, none and the most", FOUR,
            "of(0, 3) = 0 | 8 times hold(0, 0, 0, 0, 5) | of(0, 3) = 8 | hold(0, 0, 0, 0, 5) = FULL | of(0, 3) = 8");
    }

    private static void sum() {
        s.promise("5 sum");
        s.refuses("at", FOUR, "sum(%, 20)", "BAD", NO_BOX);
        s.refuses("at, of twelve boxes", TWELVE, "sum(%, 20)", "BAD", "-1", "12");
        s.refuses("at, of four matters", FOUR_MATTERS, "sum(%, 20)", "BAD", "0", "299", "301", "400");
        s.refuses("what, of two groups and choices", FOUR, "sum(0, %)", "BAD", "-1", "2", "9", "12", "19", "21", "MIN", "MAX");
        s.refuses("what, of four groups and three choices", LARGEST, "sum(0, %)", "BAD", "-1", "4", "9", "13", "19", "21", "110");
        s.says("by group, the first and the last", LARGEST, "sum(0, 0) = 75 | sum(0, 3) = 74");
        s.says("by choice, the first and the last", "told g2c3;3,4/5,0,2 | sum(0, 10) = 5 | sum(0, 12) = 2");
        s.says("in all", LARGEST, "sum(0, 20) = 297");
        s.says("of no people", "told g2c2;0,0/0,0 | sum(0, 0) = 0 | sum(0, 11) = 0 | sum(0, 20) = 0");
        s.says("at: the last box", TWELVE, "sum(11, 0) = 2 | sum(10, 0) = 1");
        s.says("at: 100 times the matter, and the box", FOUR_MATTERS, "sum(300, 20) = 6 | sum(300, 3) = 3");
    }

    private static void many() {
        s.promise("6 many");
        s.refuses("at", FOUR, "many(%)", "BAD", NO_BOX);
        s.says("at: the first and the last box", FOUR, "many(0) = 4 | many(3) = 1");
        s.says("the least: one", "told g2c2;0,4/1,3 | many(0) = 1");
        s.says("of no people there is one", "told g4c3;0,0,0,0/0,0,0 | many(0) = 1");
        s.says("a long: the most that sums of two digits have", LARGEST, "many(0) = 9005636100");
        s.says("not BIG above 20000", "told g3c3;27,20,19/17,15,34;29,17,24/16,16,38 | many(0) = 20001 | many(1) = 20004");
    }

    private static void table() {
        s.promise("7 table");
        s.refuses("at", FOUR, "table(%, 0, 0)", "BAD", NO_BOX);
        s.refuses("a cell", FOUR, "table(0, 0, %)", "BAD", NO_CELL);
        s.refuses("a cell, of four groups and three choices", LARGEST, "table(0, 0, %)", "BAD", "-1", "3", "13", "33", "40");
        s.refuses("no such table: i", FOUR, "table(0, %, 0)", "BAD", "-1", "4", "4294967296", "LEAST", "GREATEST");
        s.says("i: the first and the last", FOUR, "table(0, 0, 0) = 1 | table(0, 3, 0) = 4");
        s.says("i: of a box with one table", FOUR, "table(3, 0, 0) = 6 | table(3, 1, 0) = BAD");
        s.says("i: of no people", "told g2c3;0,0/0,0,0 | table(0, 0, 12) = 0 | table(0, 1, 12) = BAD");
        s.says("i: the last of the most", LARGEST,
            "table(0, 9005636099, 0) = 75 | table(0, 9005636099, 32) = 74 | table(0, 9005636100, 0) = BAD");
        s.says("i: the first of the most", LARGEST, "table(0, 0, 0) = 0 | table(0, 0, 2) = 75 | table(0, 0, 30) = 74");
        s.says("cell: the first and the last", FOUR, "table(0, 0, 0) = 1 | table(0, 0, 11) = 0 | table(0, 3, 11) = 3");
        s.says("the first number counts most", SIX, "table(0, 0, 0) = 0 | table(0, 3, 0) = 0 | table(0, 4, 0) = 1");
        s.says("then the second", SIX, "table(0, 1, 1) = 0 | table(0, 2, 1) = 1 | table(0, 4, 1) = 0");
        s.says("then the next group", SIX, "table(0, 0, 10) = 0 | table(0, 1, 10) = 1 | table(0, 2, 10) = 0");
    }

    private static void drawn() {
        s.promise("8 drawn");
        s.refuses("at", FOUR, "drawn(%, 0, 0)", "BAD", NO_BOX);
        s.refuses("a cell", FOUR, "drawn(0, 0, %)", "BAD", NO_CELL);
        s.says("seed 0", FOUR, "drawn(0, 0, 0) = 3");
        s.says("seed 1", FOUR, "drawn(0, 1, 0) = 4");
        s.says("seed 2: the product's highest bit is no sign", FOUR, "drawn(0, 2, 0) = 2 | drawn(1, 2, 0) = 0");
        s.says("seed -1", FOUR, "drawn(0, -1, 0) = 2 | drawn(1, -1, 0) = 0");
        s.says("the least seed wraps", FOUR, "drawn(0, LEAST, 0) = 3 | drawn(1, LEAST, 0) = 1");
        s.says("the greatest seed wraps", FOUR, "drawn(0, GREATEST, 0) = 2 | drawn(1, GREATEST, 0) = 1");
        s.says("a seed is a long", FOUR, "drawn(1, 4294967296, 0) = 0 | drawn(1, 0, 0) = 2");
        s.says("of one table", FOUR, "drawn(3, 77, 0) = 6 | drawn(3, -77, 1) = 3");
        s.says("of no people", "told g2c2;0,0/0,0 | drawn(0, 5, 11) = 0");
        s.says("the cells of one seed are of one table", SIX,
            "drawn(0, 1, 0) = 1 | drawn(0, 1, 1) = 0 | drawn(0, 1, 11) = 1 | drawn(0, 1, 12) = 0 | drawn(0, 1, 22) = 1");
    }

    private static void may() {
        s.promise("9 may, the first cell");
        s.says("NOT: it may, the first table", FOUR, "row 0 2: 1 4 3 0 | may(0, 0, 0) = NOT");
        s.says("NOT: it may, the last table", FOUR, "row 0 2: 4 1 0 3 | may(0, 0, 0) = NOT");
        s.says("below 0: the first cell", FOUR, "row 0 2: -1 6 5 -2 | may(0, 0, 0) = 0");
        s.says("below 0: by one, though all sums are kept", FOUR, "row 0 2: 5 0 -1 4 | may(0, 0, 0) = 10");
        s.says("below 0: the last cell", FOUR, "row 0 2: 1 4 3 -1 | may(0, 0, 0) = 11");
        s.says("below 0: the least int", FOUR, "row 0 2: -2147483648 4 3 0 | may(0, 0, 0) = 0");
        s.says("0 is not below 0", FOUR, "row 0 2: 0 0 1 3 | may(2, 0, 0) = NOT");
        s.says("the last of its group: one less", FOUR, "row 0 2: 1 3 3 0 | may(0, 0, 0) = 1");
        s.says("the last of its group: one more", FOUR, "row 0 2: 1 5 3 0 | may(0, 0, 0) = 1");
        s.says("the last of its group: not at an earlier one", FOUR, "row 0 2: 6 0 0 2 | may(0, 0, 0) = 1");
        s.says("the last of its choice: one more", FOUR, "row 0 2: 2 3 3 0 | may(0, 0, 0) = 10");
        s.says("the last of its choice: one less", FOUR, "row 0 2: 2 3 1 2 | may(0, 0, 0) = 10");
        s.says("the last of its choice: the second choice",
            "told g2c3;3,3/2,2,2 | row 0 2: 1 1 1 1 2 0 | may(0, 0, 0) = 11");
        s.says("the last of its group and its choice", FOUR, "row 0 2: 2 3 2 2 | may(0, 0, 0) = 11");
        s.says("the last group's last", "told g3c2;1,1,1/2,1 | row 0 2: 1 0 1 0 0 2 | may(0, 0, 0) = 21");
        s.says("a group ahead of a choice", "told g3c2;1,1,1/2,1 | row 0 2: 1 0 2 0 0 1 | may(0, 0, 0) = 11");
        s.says("cells are 10 times the group, and the choice",
            "told g4c3;1,1,1,1/2,1,1 | row 0 2: 1 0 0 1 0 0 0 1 0 0 1 0 | may(0, 0, 0) = 31");
        s.says("sums do not wrap", "told g2c3;3,3/2,2,2 | row 0 2: 2147483647 2147483647 5 0 0 0 | may(0, 0, 0) = 2");
        s.says("of no people",
            "told g2c2;0,0/0,0 | row 0 2: 0 0 0 0 | may(0, 0, 0) = NOT | put(0, 0, 1) | may(0, 0, 0) = 1");
    }

    private static void mayRefused() {
        s.promise("9 may, refused");
        String row = FOUR + " | row 0 2: 9 1 4 3 0";
        s.refuses("at", row, "may(%, 0, 1)", "BAD", NO_BOX);
        s.refuses("a shelf", row, "may(0, %, 1)", "BAD", "-1", "6", "MIN", "MAX");
        s.refuses("-13, a place", row, "may(0, 0, %)", "-13", "-1", "2", "4", "5", "MIN", "MAX", "2147483644");
        s.says("the first and the last place", row, "may(0, 0, 0) = 1 | may(0, 0, 1) = NOT");
        s.says("-11: nothing is there", FOUR, "may(0, 0, 0) = -11 | may(0, 5, 0) = -11");
        s.says("-11 ahead of -13", FOUR, "may(0, 0, -1) = -11");
        s.says("-12: a knowing", FOUR, "knowing(0) | keep(0, 0) | may(0, 0, 0) = -12");
        s.says("-12: a row of bytes", FOUR, "row(0, 0, 4) | may(0, 0, 0) = -12");
        s.says("-12: a row of shorts", FOUR, "row(0, 1, 4) | may(0, 0, 0) = -12");
        s.says("-12: a row of longs", FOUR, "row(0, 3, 4) | may(0, 0, 0) = -12");
        s.says("-12: a row of booleans", FOUR, "row(0, 4, 4) | may(0, 0, 0) = -12");
        s.says("-12 ahead of -13", FOUR, "row(0, 3, 4) | may(0, 0, 1) = -12");
        s.says("-13: a row of none", FOUR, "row(0, 2, 0) | may(0, 0, 0) = -13");
        s.says("-13: one too few, though it may not be", FOUR, "row 0 2: 9 9 9 | may(0, 0, 0) = -13");
        s.says("-13: of the most cells", LARGEST, "row(0, 2, 11) | may(0, 0, 0) = -13 | row(0, 2, 12) | may(0, 0, 0) = 2");
        s.says("BAD ahead of -11", FOUR, "may(4, 0, 0) = BAD");
        s.says("BAD ahead of -12", FOUR, "row(0, 1, 4) | may(-1, 0, 0) = BAD");
        s.says("BAD ahead of -13", FOUR, "row(0, 2, 4) | may(100, 0, 9) = BAD");
        s.says("the last shelf, the last place of the longest row", FOUR,
            "row(5, 2, 60) | put(5, 58, 1) | put(5, 59, 3) | may(2, 5, 56) = NOT | may(2, 5, 57) = -13");
    }

    private static void open() {
        s.promise("10 open");
        String row = FOUR + " | row 0 2: 9 2 3 2 1";
        s.refuses("at", row, "open(%, 0, 1)", "BAD", NO_BOX);
        s.refuses("a shelf", row, "open(0, %, 1)", "BAD", "-1", "6", "MIN", "MAX");
        s.refuses("-13, a place", row, "open(0, 0, %)", "-13", "-1", "2", "5", "MIN", "MAX");
        s.says("1: it is opened", row, "open(0, 0, 1) = 1 | count(3) = 1");
        s.says("-11: nothing is there", FOUR, "open(0, 0, 0) = -11");
        s.says("-12: no row of ints", FOUR, "row(0, 1, 4) | open(0, 0, 0) = -12");
        s.says("-12: a knowing", FOUR, "knowing(0) | keep(0, 0) | open(0, 0, 0) = -12");
        s.says("-12: a row of longs", FOUR, "row 0 3: 2 3 2 1 | open(0, 0, 0) = -12");
        s.says("NOT: it may not be, at the first cell", FOUR, "row 0 2: -1 6 5 -2 | open(0, 0, 0) = NOT");
        s.says("NOT: it may not be, at the last cell", FOUR, "row 0 2: 2 3 2 2 | open(0, 0, 0) = NOT");
        s.says("STATE: it was opened with that", row, "open(0, 0, 1) = 1 | open(0, 0, 1) = STATE | count(3) = 1");
        s.says("STATE: it was opened with another", row, "open(0, 0, 1) = 1 | row 0 2: 4 1 0 3 | open(0, 0, 0) = STATE");
        s.says("NOT ahead of STATE", row, "open(0, 0, 1) = 1 | open(0, 0, 0) = NOT");
        s.says("-11 ahead of STATE", row, "open(0, 0, 1) = 1 | open(0, 1, 1) = -11");
        s.says("-12 ahead of STATE", row, "open(0, 0, 1) = 1 | row(1, 3, 4) | open(0, 1, 0) = -12");
        s.says("-13 ahead of STATE", row, "open(0, 0, 1) = 1 | open(0, 0, 2) = -13");
        s.says("BAD ahead of -11", FOUR, "open(4, 0, 0) = BAD");
        s.says("its ends are then what it is", row, "open(0, 0, 1) = 1 | ends(0, 0, 0) = 2 | ends(0, 0, 1) = 2");
        s.says("the last cell, too", row, "open(0, 0, 1) = 1 | ends(0, 11, 0) = 1 | ends(0, 11, 1) = 1");
        s.says("it stays so when the row changes",
            row, "open(0, 0, 1) = 1 | put(0, 1, 4) | row(0, 2, 0) | ends(0, 0, 1) = 2");
        s.says("the other boxes are not opened",
            row, "open(0, 0, 1) = 1 | ends(1, 0, 0) = 0 | ends(1, 0, 1) = 2 | next(0, 0) = 1");
        s.says("the last box", FOUR, "row 0 2: 6 3 0 0 | open(3, 0, 0) = 1 | count(3) = 1");
        s.says("a box of no people", "told g2c2;0,0/0,0 | row(0, 2, 4) | open(0, 0, 0) = 1 | open(0, 0, 0) = STATE");
        s.says("from the last places of the longest row",
            FOUR, "row(5, 2, 60) | put(5, 58, 1) | put(5, 59, 3) | open(2, 5, 57) = -13 | open(2, 5, 56) = 1",
            "count(3) = 1");
        s.says("all cells of four groups and three choices",
            "told g4c3;1,2,3,4/4,3,3 | row 0 2: 1 0 0 1 1 0 2 0 1 0 2 2 | open(0, 0, 0) = 1",
            "ends(0, 0, 0) = 1 | ends(0, 12, 1) = 0 | ends(0, 20, 1) = 2 | ends(0, 22, 1) = 1 | ends(0, 31, 0) = 2",
            "ends(0, 32, 1) = 2");
        s.says("of like boxes the one that is named", "told g2c2;1,1/1,1;1,1/1,1 | row 0 2: 1 0 0 1",
            "open(1, 0, 0) = 1 | ends(0, 0, 0) = 0 | ends(1, 0, 0) = 1 | open(0, 0, 0) = 1 | count(3) = 2");
    }

    private static void ends() {
        s.promise("11 ends");
        s.refuses("at", FOUR, "ends(%, 0, 0)", "BAD", NO_BOX);
        s.refuses("a cell", FOUR, "ends(0, %, 1)", "BAD", NO_CELL);
        s.refuses("a cell, of four groups and three choices", LARGEST, "ends(0, %, 1)", "BAD", "-1", "3", "23", "33", "40");
        s.refuses("what 0 .. 1", FOUR, "ends(0, 0, %)", "BAD", NO_END);
        s.says("the last cell of the largest", LARGEST, "ends(0, 32, 0) = 0 | ends(0, 32, 1) = 74");
        s.says("the last box", FOUR, "ends(3, 0, 0) = 6 | ends(3, 11, 1) = 0");
        s.says("the least, one above 0", "told g2c2;6,4/5,5 | ends(0, 0, 0) = 1");
        s.says("the least, just 0", "told g2c2;5,5/5,5 | ends(0, 0, 0) = 0");
        s.says("the least, 0 where the sum is below", "told g2c2;4,6/5,5 | ends(0, 0, 0) = 0");
        s.says("the most: the group is the lesser", "told g2c2;4,6/5,5 | ends(0, 0, 1) = 4");
        s.says("the most: the choice is the lesser", "told g2c2;6,4/5,5 | ends(0, 0, 1) = 5");
        s.says("of no people", "told g2c2;0,0/0,0 | ends(0, 0, 0) = 0 | ends(0, 0, 1) = 0");
        s.says("of one group alone", "told g2c2;99,0/98,1 | ends(0, 0, 0) = 98 | ends(0, 0, 1) = 98 | ends(0, 10, 1) = 0");
    }

    private static void inAll() {
        s.promise("12 inAll");
        s.refuses("a matter", FOUR, "inAll(%, 0, 0)", "VOID", NO_MATTER);
        s.refuses("a cell", FOUR, "inAll(0, %, 0)", "VOID", NO_CELL);
        s.refuses("what 0 .. 3", FOUR, "inAll(0, 0, %)", "VOID", "-1", "4", "MIN", "MAX");
        s.says("what 0: the least", FOUR, "inAll(0, 0, 0) = 7");
        s.says("what 1: the most", FOUR, "inAll(0, 0, 1) = 12");
        s.says("what 2: the share of the least, cut", FOUR, "inAll(0, 0, 2) = 437");
        s.says("what 3: the share of the most", FOUR, "inAll(0, 0, 3) = 750");
        s.says("the last cell",
            FOUR, "inAll(0, 11, 0) = 6 | inAll(0, 11, 1) = 11 | inAll(0, 11, 2) = 461 | inAll(0, 11, 3) = 846");
        s.says("a share of none", "told g2c2;5,5/5,5 | inAll(0, 0, 2) = 0");
        s.says("a share of all", "told g2c2;5,0/5,0 | inAll(0, 0, 2) = 1000 | inAll(0, 0, 3) = 1000");
        s.says("VOID: the group is nowhere", "told g2c2;0,4/1,3;0,1/1,0 | inAll(0, 0, 2) = VOID | inAll(0, 1, 3) = VOID");
        s.says("not VOID: the other group is there", "told g2c2;0,4/1,3 | inAll(0, 10, 2) = 250 | inAll(0, 0, 0) = 0");
        s.says("not VOID: one of it in all", "told g2c2;0,4/1,3;1,0/1,0 | inAll(0, 0, 2) = 1000");
        s.says("VOID: no boxes", "told g2c2 | inAll(0, 0, 2) = VOID | inAll(0, 0, 3) = VOID");
        s.says("no boxes: ends are 0", "told g2c2 | inAll(0, 0, 0) = 0 | inAll(0, 0, 1) = 0");
        s.says("all twelve boxes", TWELVE, "inAll(0, 0, 1) = 12 | inAll(0, 11, 1) = 12 | inAll(0, 0, 3) = 923");
        s.says("what is opened", FOUR, "row 0 2: 3 2 1 2 | open(0, 0, 0) = 1",
            "inAll(0, 0, 0) = 9 | inAll(0, 0, 1) = 11 | inAll(0, 0, 2) = 562 | inAll(0, 0, 3) = 687");
    }

    private static void sure() {
        s.promise("13 sure");
        s.refuses("a matter", FOUR, "sure(%, 0)", "BAD", NO_MATTER);
        s.refuses("a cell", FOUR, "sure(0, %)", "BAD", NO_CELL);
        s.says("none: no boxes", "told g2c2 | sure(0, 0) = 0");
        s.says("none: all are wide", "told g2c2;1,1/1,1;2,2/2,2 | sure(0, 0) = 0");
        s.says("wide by one is not sure", "told g2c2;1,1/1,1;1,0/1,0 | sure(0, 0) = 2");
        s.says("all twelve", "told g2c2" + ";1,0/1,0".repeat(12), "sure(0, 0) = 4095");
        s.says("the last of twelve", "told g2c2" + ";1,1/1,1".repeat(11) + ";1,0/1,0", "sure(0, 0) = 2048");
        s.says("of a cell, not of another", "told g2c3;2,2/4,0,0;2,2/2,2,0 | sure(0, 0) = 1 | sure(0, 2) = 3");
        s.says("what is opened is sure", FOUR, "sure(0, 0) = 12 | row 0 2: 3 2 1 2 | open(0, 0, 0) = 1 | sure(0, 0) = 13");
    }

    private static void next() {
        s.promise("14 next");
        s.refuses("a matter", FOUR, "next(%, 0)", "BAD", NO_MATTER);
        s.refuses("a cell", FOUR, "next(0, %)", "BAD", NO_CELL);
        s.says("the widest", "told g2c2;1,1/1,1;3,3/3,3;2,2/2,2 | next(0, 0) = 1");
        s.says("the last of twelve", "told g2c2" + ";1,1/1,1".repeat(11) + ";2,2/2,2", "next(0, 0) = 11");
        s.says("of like ones the least", "told g2c2;1,1/1,1;2,2/2,2;2,2/2,2 | next(0, 0) = 1");
        s.says("one wide by one", "told g2c2;1,0/1,0;1,1/1,1 | next(0, 0) = 1");
        s.says("NOT: none is above 0", "told g2c2;1,0/1,0;0,5/5,0 | next(0, 0) = NOT");
        s.says("NOT: no boxes", "told g2c2 | next(0, 0) = NOT");
        s.says("not an opened one", FOUR, "next(0, 0) = 0 | row 0 2: 3 2 1 2 | open(0, 0, 0) = 1 | next(0, 0) = 1");
        s.says("NOT: all that were wide are opened", "told g2c2;1,1/1,1;1,0/1,0 | row 0 2: 1 0 0 1",
            "open(0, 0, 0) = 1 | next(0, 0) = NOT");
    }

    private static void opens() {
        s.promise("15 opens");
        s.refuses("a matter", FOUR, "opens(%, 0, 0)", "BAD", NO_MATTER);
        s.refuses("a cell", FOUR, "opens(0, %, 0)", "BAD", NO_CELL);
        s.refuses("v 0 .. 9999", FOUR, "opens(0, 0, %)", "BAD", "-1", "10000", "MIN", "MAX");
        s.says("v 0, the least", FOUR, "opens(0, 0, 0) = 2");
        s.says("v 9999, the most", FOUR, "opens(0, 0, 9999) = 0");
        s.says("v is just how wide it is", FOUR, "opens(0, 0, 5) = 0");
        s.says("v is one less than it is wide", FOUR, "opens(0, 0, 4) = 1");
        s.says("v is just what one opened leaves", FOUR, "opens(0, 0, 2) = 1");
        s.says("v is one less than what one opened leaves", FOUR, "opens(0, 0, 1) = 2");
        s.says("widest first",
            "told g2c2;1,1/1,1;4,4/4,4;1,1/1,1 | opens(0, 0, 2) = 1 | opens(0, 0, 1) = 2 | opens(0, 0, 0) = 3");
        s.says("none wide", "told g2c2;1,0/1,0 | opens(0, 0, 0) = 0");
        s.says("no boxes", "told g2c2 | opens(0, 0, 0) = 0");
        s.says("all twelve",
            "told g2c2" + ";1,1/1,1".repeat(12), "opens(0, 0, 0) = 12 | opens(0, 0, 1) = 11 | opens(0, 0, 11) = 1");
        s.says("sure boxes are not opened for it", "told g2c2;1,0/1,0;1,1/1,1;0,1/1,0 | opens(0, 0, 0) = 1");
        s.says("opened ones are not opened again",
            FOUR, "row 0 2: 3 2 1 2 | open(0, 0, 0) = 1 | opens(0, 0, 2) = 0 | opens(0, 0, 0) = 1");
    }
}
