/** Promises 16 to 31 (held things, claims, the line, two votes, weights): a test for each sentence that names an edge. */
public final class ClaimEdgesTest {
    /**
     * Tables of its boxes: 0: 1,4/3,0 2,3/2,1 3,2/1,2 4,1/0,3; 1: 0,2/3,3 1,1/2,4 2,0/1,5; 2: 0,0/1,3; 3: 6,3/0,0.
     */
    private static final String FOUR = "told g2c2;5,3/4,4;2,6/3,5;0,4/1,3;9,0/6,3";
    private static final String LARGEST = "told g4c3;75,74,74,74/99,99,99";
    /** Boxes of 20001, 20000, 10001, 10000 and 2 tables. */
    private static final String MANY = "told g3c3;27,20,19/17,15,34;14,27,27/18,16,34;31,21,14/16,11,39;14,26,21/16,11,34;1,1,0/1,1,0";
    /** Cell 0 is 0 .. 9 and 0 .. 3. */
    private static final String TWO = "told g2c2;9,9/9,9;3,3/3,3";
    private static final String[] NO_BOX = {"-1", "-100", "MIN", "4", "99", "100", "400", "MAX"};
    private static final String[] NO_MATTER = {"-1", "MIN", "1", "4", "100", "MAX"};
    private static final String[] NO_CELL = {"-1", "-10", "MIN", "2", "9", "12", "20", "100", "MAX"};
    private static final String[] NO_END = {"-1", "2", "10", "MIN", "MAX"};

    private static final Sentences s = new Sentences();

    public static void main(String[] args) {
        holdRefused();
        hold();
        sorts();
        byRefused();
        by();
        byBig();
        none();
        noneBig();
        claim();
        must();
        mustBig();
        line();
        wrongBoxes();
        second();
        split();
        splits();
        changed();
        parted();
        weight();
        likeliest();
        weighs();
        chance();
        s.end();
    }

    private static void holdRefused() {
        s.promise("16 hold, BAD and FULL");
        s.refuses("a matter", FOUR, "hold(%, 0, 0, 0, 1)", "BAD", NO_MATTER);
        s.refuses("sort 0 .. 3", FOUR, "hold(0, %, 0, 1, 1)", "BAD", "-1", "4", "MIN", "MAX");
        s.refuses("a cell", FOUR, "hold(0, 0, %, 0, 1)", "BAD", NO_CELL);
        s.refuses("v 0 .. 999", FOUR, "hold(0, 1, 0, 0, %)", "BAD", "-1", "1000", "MIN", "MAX");
        s.refuses("v 0 .. 999, of two", FOUR, "hold(0, 2, 0, 1, %)", "BAD", "-1", "1000");
        s.refuses("the box", FOUR, "hold(0, 0, 0, %, 1)", "BAD", "-100", "400", "MIN", "MAX");
        s.refuses("the box, of two", FOUR, "hold(0, 3, 0, %, 1)", "BAD", "-100", "401", "10001", "MIN", "MAX");
        s.refuses("the other box of sort 2", FOUR, "hold(0, 2, 0, %, 1)", "BAD", "-1", "4", "99", "304");
        s.refuses("the other box of sort 3", FOUR, "hold(0, 3, 0, %, 1)", "BAD", "-1", "4", "99", "304");
        s.refuses("one and the same box of sort 2", FOUR, "hold(0, 2, 0, %, 1)", "BAD", "0", "101", "303");
        s.refuses("one and the same box of sort 3", FOUR, "hold(0, 3, 0, %, 1)", "BAD", "0", "101", "303");
        s.refuses("a box of another matter", FOUR + " | told g2c2;1,1/1,1", "hold(1, 2, 0, %, 1)", "BAD", "1", "100");
        s.says("no box is there", "told g2c2 | hold(0, 0, 0, 0, 1) = BAD");
        String eight = FOUR + " | 8 times hold(0, 0, 0, 0, 4)";
        s.says("FULL: a ninth", eight, "hold(0, 0, 0, 0, 4) = FULL | of(0, 3) = 8");
        s.says("FULL: of this matter alone", eight, "told g2c2;1,1/1,1 | hold(1, 0, 0, 0, 4) = 0");
        s.says("BAD ahead of FULL: v", eight, "hold(0, 0, 0, 0, 1000) = BAD");
        s.says("BAD ahead of FULL: sort", eight, "hold(0, 4, 0, 0, 1) = BAD");
        s.says("BAD ahead of FULL: a cell", eight, "hold(0, 0, 2, 0, 1) = BAD");
        s.says("BAD ahead of FULL: a box", eight, "hold(0, 0, 0, 400, 1) = BAD");
        s.says("BAD ahead of FULL: one and the same box", eight, "hold(0, 2, 0, 101, 1) = BAD");
        s.says("what is refused has no number", FOUR, "hold(0, 0, 0, 0, 1000) = BAD | hold(0, 0, 0, 0, 999) = 0");
    }

    private static void hold() {
        s.promise("16 hold, its number");
        s.says("the first is 0, the last is 7",
            FOUR, "hold(0, 0, 0, 0, 4) = 0 | 6 times hold(0, 0, 0, 0, 4) | hold(0, 3, 11, 302, 1) = 7");
        s.says("each matter's own",
            FOUR, "told g2c2;1,1/1,1 | hold(0, 0, 0, 0, 4) = 0 | hold(1, 0, 0, 0, 4) = 0 | hold(0, 0, 0, 0, 4) = 1");
        s.says("sort 0, the least, v 0, the least", FOUR, "hold(0, 0, 0, 0, 0) = 0 | by(0, 1, 0, 1) = NOT");
        s.says("sort 3, the greatest, v 999, the greatest", FOUR, "hold(0, 3, 0, 1, 999) = 0 | by(0, 1, 0, 1) = 12");
        s.says("the last box",
            FOUR, "hold(0, 1, 0, 300, 6) = 0 | hold(0, 1, 0, 300, 7) = 1 | by(0, 1, 0, 0) = 7 | by(0, 2, 0, 0) = NOT");
        s.says("the twelfth box and the first", "told g2c2" + ";1,1/1,1".repeat(12),
            "hold(0, 3, 0, 11, 0) = 0 | hold(0, 3, 0, 1100, 0) = 1 | hold(0, 1, 0, 1100, 1) = 2 | by(0, 5, 0, 0) = 1",
            "by(0, 6, 0, 0) = 2");
        s.says("of sort 0 the other is any: the same",
            TWO, "hold(0, 0, 0, 0, 4) = 0 | hold(0, 0, 0, 101, 1) = 1 | by(0, 3, 0, 1) = 5");
        s.says("of sort 0 the other is any: none such", TWO, "hold(0, 0, 0, 99, 4) = 0 | by(0, 1, 0, 1) = 7");
        s.says("of sort 1 the other is any: the same",
            TWO, "hold(0, 1, 0, 0, 4) = 0 | hold(0, 1, 0, 101, 1) = 1 | by(0, 3, 0, 0) = 5");
        s.says("of sort 1 the other is any: none such", TWO, "hold(0, 1, 0, 199, 2) = 0 | by(0, 1, 0, 0) = 2");
        s.says("the last cell of four groups and three choices", "told g4c3;1,1,1,1/1,1,2",
            "hold(0, 1, 32, 0, 1) = 0 | by(0, 1, 32, 0) = 1 | by(0, 0, 32, 0) = 0");
    }

    private static void sorts() {
        s.promise("16 hold, the sorts");
        s.says("0, v at most: just v", TWO, "hold(0, 0, 0, 0, 4) | by(0, 1, 0, 1) = 7 | by(0, 1, 0, 0) = 0");
        s.says("0, v at most: 0 lets 0", TWO, "hold(0, 0, 0, 0, 0) | by(0, 1, 0, 1) = 3");
        s.says("0, v at most: above what can be", TWO, "hold(0, 0, 0, 0, 10) | by(0, 1, 0, 1) = 12");
        s.says("0, v at most: just the least that can be", "told g2c2;6,4/5,5 | hold(0, 0, 0, 0, 1) | by(0, 1, 0, 1) = 1");
        s.says("0, v at most: below what can be", "told g2c2;6,4/5,5 | hold(0, 0, 0, 0, 0) | by(0, 1, 0, 1) = NOT");
        s.says("1, v at least: just v", TWO, "hold(0, 1, 0, 0, 4) | by(0, 1, 0, 0) = 4 | by(0, 1, 0, 1) = 12");
        s.says("1, v at least: just the most that can be", TWO, "hold(0, 1, 0, 0, 9) | by(0, 1, 0, 0) = 9");
        s.says("1, v at least: above what can be", TWO, "hold(0, 1, 0, 0, 10) | by(0, 1, 0, 0) = NOT");
        s.says("1, v at least: 0 lets all", TWO, "hold(0, 1, 0, 0, 0) | by(0, 1, 0, 0) = 0");
        s.says("2, differ by v at most: 0, alike", TWO, "hold(0, 2, 0, 1, 0) | by(0, 1, 0, 1) = 6 | by(0, 1, 0, 0) = 0");
        s.says("2, differ by v at most: just v above", TWO, "hold(0, 2, 0, 1, 1) | by(0, 1, 0, 1) = 7");
        s.says("2, differ by v at most: just v below",
            TWO, "hold(0, 2, 0, 1, 1) | hold(0, 1, 0, 100, 3) | by(0, 3, 0, 0) = 5");
        s.says("2, told from the other box, just v above", TWO, "hold(0, 2, 0, 100, 1) | by(0, 1, 0, 1) = 7");
        s.says("2, told from the other box, just v below",
            TWO, "hold(0, 2, 0, 100, 1) | hold(0, 1, 0, 100, 3) | by(0, 3, 0, 0) = 5");
        s.says("3, no more than in another: alike", TWO, "hold(0, 3, 0, 1, 0) | by(0, 1, 0, 1) = 6");
        s.says("3, no more than in another and v: just v", TWO, "hold(0, 3, 0, 1, 2) | by(0, 1, 0, 1) = 8");
        s.says("3, however much less", TWO, "hold(0, 3, 0, 1, 0) | hold(0, 1, 0, 100, 3) | by(0, 3, 0, 0) = 3");
        s.says("3, told from the other box", TWO, "hold(0, 3, 0, 100, 0) | by(0, 1, 0, 1) = 12");
        s.says("3, told from the other box, least",
            TWO, "hold(0, 3, 0, 100, 0) | hold(0, 1, 0, 100, 3) | by(0, 3, 0, 0) = 6");
        s.says("3, told from the other box and v",
            TWO, "hold(0, 3, 0, 100, 1) | hold(0, 1, 0, 100, 3) | by(0, 3, 0, 0) = 5");
    }

    private static void byRefused() {
        s.promise("17 by, refused");
        String held = FOUR + " | hold(0, 0, 0, 0, 2) | hold(0, 1, 0, 0, 3)";
        s.refuses("a matter", held, "by(%, 0, 0, 0)", "BAD", NO_MATTER);
        s.refuses("a set of told bits", held, "by(0, %, 0, 0)", "BAD", "-1", "4", "5", "255", "256", "MIN", "MAX");
        s.refuses("a cell", held, "by(0, 1, %, 0)", "BAD", NO_CELL);
        s.refuses("what 0 .. 1", held, "by(0, 1, 0, %)", "BAD", NO_END);
        s.refuses("a set where nothing is told", FOUR, "by(0, %, 0, 0)", "BAD", "1", "-1");
        s.refuses("a set of eight", FOUR + " | 8 times hold(0, 0, 0, 0, 4)", "by(0, %, 0, 0)", "BAD", "-1", "256");
        s.says("NOT: none, of either end", held, "by(0, 3, 0, 0) = NOT | by(0, 3, 0, 1) = NOT");
        s.says("BAD ahead of NOT: what", held, "by(0, 3, 0, 2) = BAD");
        s.says("BAD ahead of NOT: a cell", held, "by(0, 3, 2, 0) = BAD");
        s.says("BAD ahead of BIG: what", MANY, "hold(0, 0, 0, 0, 5) | by(0, 1, 0, -1) = BAD");
        s.says("BAD ahead of BIG: a cell", MANY, "hold(0, 0, 0, 0, 5) | by(0, 1, 3, 0) = BAD");
        s.says("BAD ahead of BIG: a set", MANY, "hold(0, 0, 0, 0, 5) | by(0, 3, 0, 0) = BAD");
        s.says("BIG ahead of NOT",
            MANY, "hold(0, 0, 0, 0, 5) | hold(0, 1, 0, 400, 2) | by(0, 2, 0, 0) = NOT | by(0, 3, 0, 0) = BIG");
    }

    private static void by() {
        s.promise("17 by, ends in all by a set");
        s.says("the set of none: the ends in all", FOUR, "by(0, 0, 0, 0) = 7 | by(0, 0, 0, 1) = 12");
        s.says("the set of all eight",
            FOUR, "7 times hold(0, 0, 0, 0, 4) | hold(0, 0, 0, 0, 2) | by(0, 255, 0, 1) = 10 | by(0, 127, 0, 1) = 12");
        s.says("the eighth alone", FOUR, "7 times hold(0, 0, 0, 0, 0) | hold(0, 0, 0, 0, 2) | by(0, 128, 0, 1) = 10");
        s.says("all twelve boxes are named", "told g2c2" + ";1,1/1,1".repeat(12),
            "hold(0, 2, 0, 1, 0) | hold(0, 2, 0, 203, 0) | hold(0, 2, 0, 405, 0) | hold(0, 2, 0, 607, 0)",
            "hold(0, 2, 0, 809, 0)",
            "hold(0, 2, 0, 1011, 0) | hold(0, 1, 0, 0, 1) | hold(0, 0, 11, 1100, 0) | by(0, 255, 0, 0) = 2",
            "by(0, 255, 0, 1) = 10",
            "must(0, 255, 0, 2) = 65 | none(0, 255) = NOT | claim(0, 255, 0, 2) = 2 | claim(0, 255, 0, 11) = 0");
        s.says("no boxes, no set", "told g2c2 | by(0, 0, 0, 0) = 0 | by(0, 0, 11, 1) = 0");
        s.says("the first of a set alone",
            FOUR, "hold(0, 0, 0, 0, 2) | hold(0, 0, 0, 0, 3) | by(0, 1, 0, 1) = 10 | by(0, 2, 0, 1) = 11");
        s.says("another cell than that held", FOUR, "hold(0, 0, 0, 0, 2) | by(0, 1, 10, 0) = 4 | by(0, 1, 10, 1) = 7");
        s.says("boxes that the set does not name are by their ends",
            TWO, "hold(0, 1, 0, 0, 9) | by(0, 1, 0, 0) = 9 | by(0, 1, 0, 1) = 12");
        String opened = FOUR + " | row 0 2: 3 2 1 2 | open(0, 0, 0) = 1";
        s.says("an opened box is what it was seen to be: kept",
            opened, "hold(0, 0, 0, 0, 3) | by(0, 1, 0, 0) = 9 | by(0, 1, 0, 1) = 11");
        s.says("an opened box is what it was seen to be: not kept", opened, "hold(0, 0, 0, 0, 2) | by(0, 1, 0, 0) = NOT");
        s.says("an opened box that the set does not name",
            opened, "hold(0, 1, 0, 100, 1) | by(0, 1, 0, 0) = 10 | by(0, 1, 0, 1) = 11");
        s.says("an opened box and another", opened, "hold(0, 2, 0, 1, 1) | by(0, 1, 0, 0) = 11 | by(0, 1, 0, 1) = 11");
        s.says("opened after it was held",
            FOUR, "hold(0, 0, 0, 0, 2) | by(0, 1, 0, 1) = 10 | row 0 2: 3 2 1 2 | open(0, 0, 0) = 1 | by(0, 1, 0, 1) = NOT");
    }

    private static void byBig() {
        s.promise("17 by, BIG above 20000");
        s.says("20000 of one box are gone through", MANY, "hold(0, 0, 0, 100, 99) | by(0, 1, 0, 0) = 0");
        s.says("20001 of one box are not", MANY, "hold(0, 0, 0, 0, 99) | by(0, 1, 0, 0) = BIG | by(0, 1, 0, 1) = BIG");
        s.says("10000 times 2 are gone through", MANY, "hold(0, 2, 0, 304, 99) | by(0, 1, 0, 0) = 0");
        s.says("10001 times 2 are not", MANY, "hold(0, 2, 0, 204, 99) | by(0, 1, 0, 0) = BIG");
        s.says("each too few, but not the product", MANY, "hold(0, 0, 0, 300, 99) | hold(0, 0, 0, 200, 99)",
            "by(0, 1, 0, 0) = 0 | by(0, 2, 0, 0) = 0 | by(0, 3, 0, 0) = BIG");
        s.says("the boxes that the set names alone",
            MANY, "hold(0, 0, 0, 400, 0) | hold(0, 0, 0, 0, 99) | by(0, 1, 0, 1) = 61");
        s.says("a set of none is never BIG", MANY, "by(0, 0, 0, 0) = 0");
        s.says("the other box of sort 0 is not named", MANY, "hold(0, 0, 0, 400, 99) | by(0, 1, 0, 0) = 0");
        s.says("the other box of sort 1 is not named", MANY, "hold(0, 1, 0, 400, 1) | by(0, 1, 0, 0) = 1");
        s.says("a box that is named twice counts once",
            MANY, "hold(0, 0, 0, 300, 99) | hold(0, 0, 11, 300, 99) | by(0, 3, 0, 0) = 0");
        s.says("both boxes of sort 3 are named", MANY, "hold(0, 3, 0, 400, 99) | by(0, 1, 0, 0) = BIG");
        s.says("products that wrap are BIG",
            "told g2c2" + ";31,31/31,31".repeat(12) + " | told g2c2" + ";1,1/1,1".repeat(12),
            "hold(0, 2, 0, 1, 0) | hold(0, 2, 0, 203, 0) | hold(0, 2, 0, 405, 0) | hold(0, 2, 0, 607, 0)",
            "hold(0, 2, 0, 809, 0)",
            "hold(0, 2, 0, 1011, 0) | by(0, 63, 0, 0) = BIG | by(0, 15, 0, 0) = BIG");
        s.says("products of the largest are BIG", "told g4c3;75,74,74,74/99,99,99;75,74,74,74/99,99,99;75,74,74,74/99,99,99",
            "hold(0, 2, 0, 1, 0) | hold(0, 2, 0, 102, 0) | by(0, 1, 0, 0) = BIG | by(0, 3, 0, 0) = BIG");
        String opened = "told g2c2;99,99/99,99;99,99/99,99;2,2/2,2 | hold(0, 2, 0, 1, 0) | hold(0, 3, 0, 200, 0)";
        s.says("30000", opened, "by(0, 3, 0, 0) = BIG");
        s.says("an opened one counts 1",
            opened, "row 0 2: 40 59 59 40 | open(0, 0, 0) = 1 | by(0, 3, 0, 0) = 80 | by(0, 3, 0, 1) = 82");
        s.says("a big one that is opened counts 1", "told g3c3;27,20,19/17,15,34 | hold(0, 0, 0, 0, 99)",
            "by(0, 1, 0, 0) = BIG | row 0 2: 17 10 0 0 5 15 0 0 19 | open(0, 0, 0) = 1 | by(0, 1, 0, 0) = 17");
    }

    private static void none() {
        s.promise("18 none");
        String held = FOUR + " | hold(0, 0, 0, 0, 2) | hold(0, 1, 0, 0, 3) | hold(0, 1, 0, 100, 2) | hold(0, 0, 0, 100, 1)";
        s.refuses("a matter", held, "none(%, 0)", "BAD", NO_MATTER);
        s.refuses("a set of told bits", held, "none(0, %)", "BAD", "-1", "16", "255", "256", "MIN", "MAX");
        s.refuses("a set of eight", FOUR + " | 8 times hold(0, 0, 0, 0, 4)", "none(0, %)", "BAD", "-1", "256");
        s.says("NOT: of none told", held, "none(0, 0) = NOT");
        s.says("NOT: one alone", held, "none(0, 1) = NOT");
        s.says("NOT: all of the told let some", held, "none(0, 5) = NOT | none(0, 10) = NOT");
        s.says("NOT: no boxes", "told g2c2 | none(0, 0) = NOT");
        s.says("two that let none", held, "none(0, 3) = 3");
        s.says("of told bits alone", held, "none(0, 14) = 12 | none(0, 13) = 12");
        s.says("of like ones the least as bits", held, "none(0, 15) = 3");
        s.says("the fewest ahead of the least as bits", held, "hold(0, 1, 0, 0, 5) = 4 | none(0, 31) = 16");
        s.says("of single ones the least",
            FOUR, "hold(0, 0, 0, 0, 4) | hold(0, 0, 0, 0, 0) | hold(0, 1, 0, 0, 5) | none(0, 7) = 2");
        s.says("the eighth alone",
            FOUR, "7 times hold(0, 0, 0, 0, 4) | hold(0, 0, 0, 0, 0) | none(0, 255) = 128 | none(0, 127) = NOT");
        s.says("a pair ahead of three, though more as bits", TWO,
            "hold(0, 2, 0, 1, 0) | hold(0, 1, 0, 0, 3) | hold(0, 0, 0, 100, 2) | hold(0, 1, 11, 100, 3)",
            "none(0, 7) = 7 | none(0, 15) = 12");
        s.says("all eight together", "told g2c2" + ";1,1/1,1".repeat(7),
            "hold(0, 1, 0, 0, 1) | hold(0, 3, 0, 1, 0) | hold(0, 3, 0, 102, 0) | hold(0, 3, 0, 203, 0)",
            "hold(0, 3, 0, 304, 0)",
            "hold(0, 3, 0, 405, 0) | hold(0, 3, 0, 506, 0) | hold(0, 0, 0, 600, 0) | none(0, 255) = 255",
            "none(0, 254) = NOT");
        s.says("what was seen",
            FOUR, "row 0 2: 3 2 1 2 | open(0, 0, 0) = 1 | hold(0, 0, 0, 0, 3) | hold(0, 0, 0, 0, 2) | none(0, 3) = 2",
            "none(0, 1) = NOT");
    }

    private static void noneBig() {
        s.promise("18 none, BIG of the sets that are looked at");
        s.says("20001", MANY, "hold(0, 0, 0, 0, 99) | none(0, 1) = BIG");
        s.says("20000 are gone through", MANY, "hold(0, 0, 0, 100, 99) | none(0, 1) = NOT");
        s.says("a big one ahead of the answer", MANY, "hold(0, 0, 0, 0, 99) | hold(0, 1, 0, 400, 2) | none(0, 3) = BIG");
        s.says("a big one behind the answer", MANY, "hold(0, 1, 0, 400, 2) | hold(0, 0, 0, 0, 99) | none(0, 3) = 1");
        s.says("a big one that is not told", MANY, "hold(0, 0, 0, 0, 99) | hold(0, 1, 0, 400, 2) | none(0, 2) = 2");
        s.says("a big pair ahead of the pair that lets none", MANY,
            "hold(0, 0, 0, 300, 99) | hold(0, 0, 0, 200, 99) | hold(0, 1, 0, 200, 99) | none(0, 7) = 4");
        s.says("a big pair ahead of a pair", MANY,
            "hold(0, 0, 0, 300, 99) | hold(0, 0, 0, 200, 5) | hold(0, 1, 0, 200, 6) | none(0, 7) = BIG | none(0, 6) = 6");
        s.says("a big pair behind a pair", MANY,
            "hold(0, 0, 0, 200, 5) | hold(0, 1, 0, 200, 6) | hold(0, 0, 0, 300, 99) | none(0, 7) = 3");
        s.says("the set of all, though all smaller ones let some", MANY,
            "hold(0, 0, 0, 300, 99) | hold(0, 0, 0, 200, 99) | none(0, 3) = BIG");
        s.says("BAD ahead of BIG", MANY, "hold(0, 0, 0, 0, 99) | none(0, 3) = BAD | none(1, 1) = BAD");
    }

    private static void claim() {
        s.promise("19 claim");
        String held = FOUR + " | hold(0, 0, 0, 0, 2) | hold(0, 1, 0, 0, 3)";
        s.refuses("a matter", held, "claim(%, 0, 0, 1)", "BAD", NO_MATTER);
        s.refuses("a set of told bits", held, "claim(0, %, 0, 1)", "BAD", "-1", "4", "256", "MIN", "MAX");
        s.refuses("a cell", held, "claim(0, 1, %, 1)", "BAD", NO_CELL);
        s.refuses("v 0 .. 9999", held, "claim(0, 1, 0, %)", "BAD", "-1", "10000", "MIN", "MAX");
        s.says("v 0, the least: it follows", held, "claim(0, 0, 0, 0) = 2");
        s.says("v 9999, the greatest: it can't be", held, "claim(0, 0, 0, 9999) = 0");
        s.says("2: its least is just v", held, "claim(0, 1, 0, 7) = 2");
        s.says("1: its least is one less than v", held, "claim(0, 1, 0, 8) = 1");
        s.says("1: its most is just v", held, "claim(0, 1, 0, 10) = 1");
        s.says("0: its most is one less than v", held, "claim(0, 1, 0, 11) = 0");
        s.says("2: none, whatever is claimed", held, "claim(0, 3, 0, 0) = 2 | claim(0, 3, 0, 9999) = 2");
        s.says("2: its least and most are v", "told g2c2;5,0/5,0 | claim(0, 0, 0, 5) = 2 | claim(0, 0, 0, 6) = 0");
        s.says("no boxes", "told g2c2 | claim(0, 0, 0, 0) = 2 | claim(0, 0, 0, 1) = 0");
        s.says("BIG: 20001", MANY, "hold(0, 0, 0, 0, 99) | claim(0, 1, 0, 0) = BIG");
        s.says("20000 are gone through", MANY, "hold(0, 0, 0, 100, 99) | claim(0, 1, 0, 0) = 2");
        s.says("BIG ahead of what is none", MANY, "hold(0, 0, 0, 0, 5) | hold(0, 1, 0, 400, 2) | claim(0, 3, 0, 0) = BIG");
        s.says("BAD ahead of BIG",
            MANY, "hold(0, 0, 0, 0, 99) | claim(0, 1, 0, 10000) = BAD | claim(0, 1, 0, -1) = BAD",
            "claim(0, 1, 30, 1) = BAD");
    }

    private static void must() {
        s.promise("20 must");
        String held = FOUR + " | hold(0, 0, 0, 0, 0) | hold(0, 1, 0, 100, 1) | hold(0, 1, 0, 0, 2)";
        s.refuses("a matter", held, "must(%, 0, 0, 1)", "BAD", NO_MATTER);
        s.refuses("a set of told bits", held, "must(0, %, 0, 1)", "BAD", "-1", "8", "256", "MIN", "MAX");
        s.refuses("a cell", held, "must(0, 1, %, 1)", "BAD", NO_CELL);
        s.refuses("v 0 .. 9999", held, "must(0, 1, 0, %)", "BAD", "-1", "10000", "MIN", "MAX");
        s.says("v 0, the least: by the set of none", held, "must(0, 7, 0, 0) = 0");
        s.says("v 9999, the greatest: by none", held, "must(0, 7, 0, 9999) = NOT");
        s.says("by the set of none: just the least in all", held, "must(0, 7, 0, 7) = 0");
        s.says("by one: one more than the least in all", held, "must(0, 7, 0, 8) = 2");
        s.says("by two: just what they prove", held, "must(0, 7, 0, 9) = 6");
        s.says("NOT: one more than what all prove", held, "must(0, 7, 0, 10) = NOT");
        s.says("NOT: of none told", held, "must(0, 0, 0, 8) = NOT");
        s.says("not by one that lets none", held, "must(0, 1, 0, 8) = NOT");
        s.says("not by a pair that lets none",
            FOUR, "hold(0, 0, 0, 0, 2) | hold(0, 1, 0, 0, 3) | must(0, 3, 0, 9) = 2 | must(0, 3, 0, 10) = NOT");
        s.says("of told bits alone", held, "must(0, 5, 0, 8) = 4");
        s.says("of like ones the least as bits", held, "must(0, 6, 0, 8) = 2");
        s.says("the fewest ahead of the least as bits", held, "hold(0, 1, 0, 0, 3) = 3 | must(0, 15, 0, 9) = 8");
        s.says("of pairs the least as bits", held, "hold(0, 1, 0, 0, 2) = 3 | must(0, 15, 0, 9) = 6");
        s.says("the eighth alone",
            FOUR, "7 times hold(0, 0, 0, 0, 4) | hold(0, 1, 0, 0, 2) | must(0, 255, 0, 8) = 128 | must(0, 127, 0, 8) = NOT");
        s.says("all eight together", "told g2c2" + ";1,1/1,1".repeat(8),
            "hold(0, 1, 0, 0, 1) | hold(0, 3, 0, 1, 0) | hold(0, 3, 0, 102, 0) | hold(0, 3, 0, 203, 0)",
            "hold(0, 3, 0, 304, 0)",
            "hold(0, 3, 0, 405, 0) | hold(0, 3, 0, 506, 0) | hold(0, 3, 0, 607, 0) | must(0, 255, 0, 8) = 255",
            "must(0, 255, 0, 7) = 127",
            "must(0, 254, 0, 1) = NOT");
        s.says("no boxes", "told g2c2 | must(0, 0, 0, 0) = 0 | must(0, 0, 0, 1) = NOT");
        s.says("what was seen",
            FOUR, "hold(0, 1, 0, 100, 1) | must(0, 1, 0, 10) = NOT | row 0 2: 3 2 1 2 | open(0, 0, 0) = 1",
            "must(0, 1, 0, 9) = 0 | must(0, 1, 0, 10) = 1");
    }

    private static void mustBig() {
        s.promise("20 must, BIG of the sets that are looked at");
        s.says("20001", MANY, "hold(0, 0, 0, 0, 99) | must(0, 1, 0, 1) = BIG");
        s.says("20000 are gone through", MANY, "hold(0, 0, 0, 100, 99) | must(0, 1, 0, 1) = NOT");
        s.says("the set of none is the answer ahead of a big one", MANY, "hold(0, 0, 0, 0, 99) | must(0, 1, 0, 0) = 0");
        s.says("a big one ahead of the answer",
            MANY, "hold(0, 0, 0, 0, 99) | hold(0, 1, 0, 400, 1) | must(0, 3, 0, 1) = BIG");
        s.says("a big one behind the answer", MANY, "hold(0, 1, 0, 400, 1) | hold(0, 0, 0, 0, 99) | must(0, 3, 0, 1) = 1");
        s.says("a big one that is not told", MANY, "hold(0, 0, 0, 0, 99) | hold(0, 1, 0, 400, 1) | must(0, 2, 0, 1) = 2");
        s.says("a big pair behind the answer", MANY,
            "hold(0, 1, 0, 300, 1) | hold(0, 1, 0, 200, 1) | must(0, 3, 0, 1) = 1 | must(0, 3, 0, 2) = BIG");
        s.says("a big one ahead of one that lets none",
            MANY, "hold(0, 1, 0, 400, 2) | hold(0, 0, 0, 0, 99) | must(0, 1, 0, 1) = NOT | must(0, 3, 0, 1) = BIG");
        s.says("BAD ahead of BIG",
            MANY, "hold(0, 0, 0, 0, 99) | must(0, 1, 0, 10000) = BAD | must(0, 3, 0, 1) = BAD | must(0, 1, 3, 1) = BAD");
    }

    private static void line() {
        s.promise("21 line");
        String below = "told g2c2;1,2/0,3;1,0/1,0";
        s.refuses("a matter", FOUR, "line(%, 500)", "VOID", NO_MATTER);
        s.refuses("x 0 .. 1000", FOUR, "line(0, %)", "VOID", "-1", "1001", "MIN", "MAX");
        s.says("x 0, the least", FOUR, "line(0, 0) = 257");
        s.says("x 1000, the greatest", FOUR, "line(0, 1000) = 663");
        s.says("toward below, below 0", below, "line(0, 0) = -500");
        s.says("toward below, just at -1", below, "line(0, 332) = -2 | line(0, 333) = 0");
        s.says("toward below, above 0", below, "line(0, 334) = 1 | line(0, 999) = 998");
        s.says("what is whole stays", below, "line(0, 1000) = 1000");
        s.says("thousandths are cut: of group 0",
            "told g2c2;1,2/0,3;2,1/3,0", "line(0, 333) = 0 | line(0, 666) = 1000 | line(0, 667) = 1003");
        s.says("thousandths are cut: of choice 0", "told g2c2;0,3/1,2;3,0/2,1", "line(0, 0) = 333 | line(0, 1000) = 666");
        s.says("NOT: no dots", "told g2c2 | line(0, 500) = VOID");
        s.says("NOT: one dot", "told g2c2;5,5/5,5 | line(0, 500) = VOID");
        s.says("NOT: all dots have one x", "told g2c2;1,2/2,1;2,4/1,5;33,66/99,0 | line(0, 333) = VOID");
        s.says("NOT: all dots have one x when cut", "told g2c2;98,97/99,96;99,98/98,99 | line(0, 502) = VOID");
        s.says("two dots", "told g2c2;5,5/5,5;1,3/3,1 | line(0, 0) = 1000 | line(0, 1000) = 0");
        s.says("no dot where no people are: of two", "told g2c2;5,5/5,5;0,0/0,0 | line(0, 0) = VOID");
        s.says("no dot where no people are: of three", "told g2c2;5,5/5,5;0,0/0,0;1,3/3,1 | line(0, 0) = 1000");
        s.says("a level line", "told g2c2;5,5/5,5;1,3/2,2 | line(0, 0) = 500 | line(0, 1000) = 500");
        s.says("all twelve dots", "told g2c2" + ";0,1/0,1".repeat(11) + ";1,0/1,0", "line(0, 1000) = 1000 | line(0, 0) = 0");
        s.says("a steep line", "told g2c2;51,50/99,2;50,49/0,99 | line(0, 0) = 494900 | line(0, 1000) = -485100");
    }

    private static void wrongBoxes() {
        s.promise("22 wrong");
        s.refuses("a matter", FOUR, "wrong(%, -1)", "BAD", NO_MATTER);
        s.refuses("i below -1", FOUR, "wrong(0, %)", "BAD", "-2", "MIN");
        s.refuses("none such", FOUR, "wrong(0, %)", "BAD", "1", "4", "12", "MAX");
        s.says("i -1: how many", FOUR, "wrong(0, -1) = 1");
        s.says("i 0: the first", FOUR, "wrong(0, 0) = 3");
        s.says("none are", "told g2c2;5,5/5,5;1,3/3,1 | wrong(0, -1) = 0 | wrong(0, 0) = BAD");
        s.says("NOT: no line", "told g2c2;5,5/5,5 | wrong(0, -1) = NOT | wrong(0, 0) = NOT");
        s.says("NOT: no boxes", "told g2c2 | wrong(0, -1) = NOT");
        s.says("NOT ahead of none such", "told g2c2;5,5/5,5 | wrong(0, 99) = NOT | wrong(0, MAX) = NOT");
        s.says("i below -1 ahead of NOT", "told g2c2;5,5/5,5 | wrong(0, -2) = BAD | wrong(0, MIN) = BAD");
        s.says("no such matter ahead of NOT", "told g2c2 | wrong(1, -1) = BAD");
        s.says("just the least, cut: 666 of 2 of 3", "told g2c2;0,1/0,1;3,0/2,1 | line(0, 1000) = 666 | wrong(0, -1) = 0");
        s.says("one below the least, cut: 665 of 2 of 3", "told g2c2;0,1/0,1;3,0/2,1;3,0/2,1;98,0/65,33",
            "line(0, 1000) = 665 | wrong(0, -1) = 3 | wrong(0, 0) = 1 | wrong(0, 1) = 2 | wrong(0, 2) = 3");
        s.says("just the most, cut up: 667 of 2 of 3", "told g2c2;0,1/0,1;3,0/2,1;3,0/2,1;97,0/65,32",
            "line(0, 1000) = 667 | wrong(0, -1) = 1 | wrong(0, 0) = 3");
        s.says("one above the most, cut up: 668 of 2 of 3", "told g2c2;0,1/0,1;3,0/2,1;97,0/65,32",
            "line(0, 1000) = 668 | wrong(0, -1) = 2 | wrong(0, 0) = 1 | wrong(0, 1) = 2");
        s.says("one below the least: 999 of all", "told g2c2;0,1/0,1" + ";1,0/1,0".repeat(10) + ";99,0/98,1",
            "line(0, 1000) = 999 | wrong(0, -1) = 11 | wrong(0, 0) = 1 | wrong(0, 10) = 11");
        s.says("what is whole is not cut up", "told g2c2;0,1/0,1;2,0/1,1;2,0/1,1;2,0/1,1;97,0/49,48",
            "line(0, 1000) = 501 | wrong(0, -1) = 4 | wrong(0, 3) = 4");
        s.says("by what the line says at 1000, not at the box's x",
            "told g2c2;0,1/0,1;1,1/2,0 | line(0, 500) = 1000 | line(0, 1000) = 2000 | wrong(0, -1) = 1 | wrong(0, 0) = 1");
        s.says("not where group 0 is not there",
            "told g2c2;0,1/0,1;9,0/9,0;0,7/7,0 | line(0, 1000) = 1000 | wrong(0, -1) = 0");
        s.says("all twelve",
            "told g2c2" + ";1,0/1,0;1,0/0,1".repeat(5) + ";1,0/1,0;0,1/1,0", "line(0, 1000) = 545",
            "wrong(0, -1) = 11 | wrong(0, 10) = 10 | wrong(0, 11) = BAD");
        s.says("what is opened",
            FOUR, "row 0 2: 1 4 3 0 | open(0, 0, 0) = 1 | wrong(0, -1) = 2 | wrong(0, 0) = 0 | wrong(0, 1) = 3",
            "wrong(0, 2) = BAD");
    }

    private static void second() {
        s.promise("23 second");
        s.refuses("at", FOUR, "second(%, 8)", "BAD", NO_BOX);
        s.refuses("not as many votes in all", FOUR, "second(0, %)", "BAD",
            "0", "7", "9", "3004", "3006", "2005", "4005", "7000", "9000", "MIN", "MAX");
        s.refuses("below 0", FOUR, "second(0, %)", "BAD", "-1", "-3005", "-8", "LEAST");
        s.refuses("a long is not cut to an int", FOUR, "second(0, %)", "BAD", "4294970301", "-4294964291", "GREATEST");
        s.refuses("more digits than choices", FOUR, "second(0, %)", "BAD", "1003005", "1000003004", "1000000003005", "8000000");
        s.says("all for the first choice", FOUR, "second(0, 8000) = 1 | split(0, 0, 0) = 4");
        s.says("all for the last choice", FOUR, "second(0, 8) = 1 | split(0, 1, 0) = 4");
        s.says("choice 0 is the highest digit",
            "told g2c3;5,5/3,3,4 | second(0, 5003002) = 1 | split(0, 20, 1) = 4 | split(0, 21, 1) = 3",
            "split(0, 22, 1) = 2");
        s.says("a sum above 99",
            LARGEST, "second(0, 297000000) = 1 | split(0, 0, 0) = 99 | second(0, 297) = 1 | split(0, 2, 0) = 99");
        s.says("not as many, of three",
            LARGEST, "second(0, 298000000) = BAD | second(0, 99099098) = BAD | second(0, 99099099) = 1");
        s.says("a digit does not run over",
            "told g2c3;5,5/3,3,4 | second(0, 1000009) = 1 | split(0, 2, 0) = 2 | split(0, 1, 1) = 0");
        s.says("of no people",
            "told g2c2;0,0/0,0 | second(0, 1) = BAD | second(0, 1000) = BAD | second(0, 0) = 1 | splits(0, 0) = 0");
        s.says("told anew it is what was told last",
            FOUR, "second(0, 8) = 1 | second(0, 8000) = 1 | split(0, 0, 1) = 4 | split(0, 1, 1) = 0");
        s.says("refused, what was told stays", FOUR, "second(0, 3005) = 1 | second(0, 8001) = BAD | split(0, 0, 1) = 3");
        s.says("refused, none was told", FOUR, "second(0, 8001) = BAD | split(0, 0, 1) = STATE");
        s.says("of the last box", FOUR, "second(3, 9000) = 1 | splits(3, 0) = 3 | splits(2, 0) = STATE");
    }

    private static void split() {
        s.promise("24 split");
        String told = FOUR + " | second(0, 3005) = 1";
        s.refuses("at", told, "split(%, 0, 0)", "BAD", NO_BOX);
        s.refuses("choices k and l", told, "split(0, %, 0)", "BAD", "-1", "-10", "2", "9", "12", "20", "22", "100", "MIN", "MAX");
        s.refuses("choices k and l, of three", "told g4c3;1,1,1,1/1,1,2 | second(0, 4) = 1",
            "split(0, %, 0)", "BAD", "-1", "3", "23", "30", "32");
        s.refuses("what 0 .. 1", told, "split(0, 0, %)", "BAD", NO_END);
        s.says("STATE: no second vote was told", FOUR, "split(0, 0, 0) = STATE");
        s.says("STATE: of another box it was", told, "split(1, 0, 0) = STATE");
        s.says("BAD ahead of STATE", FOUR, "split(0, 2, 0) = BAD | split(0, 20, 0) = BAD | split(0, 0, 2) = BAD");
        s.says("kl: from k to l", FOUR, "second(0, 8) = 1 | split(0, 1, 0) = 4 | split(0, 10, 1) = 0");
        s.says("the last choices of three",
            "told g2c3;5,5/3,3,4 | second(0, 5003002) = 1 | split(0, 22, 1) = 2 | split(0, 12, 1) = 2",
            "split(0, 20, 1) = 4");
        s.says("the least, one above 0", "told g2c2;5,5/6,4 | second(0, 5005) = 1 | split(0, 0, 0) = 1");
        s.says("the least, just 0", "told g2c2;5,5/5,5 | second(0, 5005) = 1 | split(0, 0, 0) = 0");
        s.says("the least, 0 where the sum is below", "told g2c2;5,5/4,6 | second(0, 5005) = 1 | split(0, 0, 0) = 0");
        s.says("the most: the first vote is the lesser", "told g2c2;5,5/4,6 | second(0, 5005) = 1 | split(0, 0, 1) = 4");
        s.says("the most: the second vote is the lesser", "told g2c2;5,5/6,4 | second(0, 5005) = 1 | split(0, 0, 1) = 5");
        s.says("of no people", "told g2c2;0,0/0,0 | second(0, 0) = 1 | split(0, 1, 0) = 0 | split(0, 1, 1) = 0");
    }

    private static void splits() {
        s.promise("25 splits");
        String told = FOUR + " | second(0, 3005) = 1";
        s.refuses("at", told, "splits(%, 0)", "BAD", NO_BOX);
        s.refuses("what 0 .. 1", told, "splits(0, %)", "BAD", NO_END);
        s.says("what 0: the least", told, "splits(0, 0) = 1");
        s.says("what 1: the most", told, "splits(0, 1) = 7");
        s.says("STATE: no second vote was told", FOUR, "splits(0, 0) = STATE | splits(0, 1) = STATE");
        s.says("BAD ahead of STATE", FOUR, "splits(0, 2) = BAD | splits(0, -1) = BAD");
        s.says("the least: 0, both votes are alike", FOUR, "second(0, 4004) = 1 | splits(0, 0) = 0");
        s.says("the most: all, though both votes are alike", FOUR, "second(0, 4004) = 1 | splits(0, 1) = 8");
        s.says("the least: all", "told g2c2;5,5/10,0 | second(0, 10) = 1 | splits(0, 0) = 10 | splits(0, 1) = 10");
        s.says("the most: none", "told g2c2;5,5/10,0 | second(0, 10000) = 1 | splits(0, 0) = 0 | splits(0, 1) = 0");
        s.says("the most: 0 at least is alike", "told g2c3;2,2/1,1,2 | second(0, 2001001) = 1 | splits(0, 1) = 4");
        s.says("the most: one must be alike", "told g2c3;2,2/2,1,1 | second(0, 3001000) = 1 | splits(0, 1) = 3");
        s.says("the most: the greatest over choices, the last",
            "told g2c3;2,2/1,0,3 | second(0, 1003) = 1 | splits(0, 1) = 2");
        s.says("of no people", "told g2c2;0,0/0,0 | second(0, 0) = 1 | splits(0, 0) = 0 | splits(0, 1) = 0");
    }

    private static void changed() {
        s.promise("26 changed");
        s.refuses("at", FOUR, "changed(%, 0)", "BAD", NO_BOX);
        s.refuses("the other box", FOUR, "changed(0, %)", "BAD", "-1", "4", "12", "MIN", "MAX");
        s.refuses("the other box, of the matter", "told g2c2;1,1/1,1 | " + FOUR, "changed(0, %)", "BAD", "1", "3");
        s.says("from the box itself: 0", FOUR, "changed(0, 0) = 0 | changed(3, 3) = 0");
        s.says("from the last box", FOUR, "changed(0, 3) = 2");
        s.says("of as many votes: none must", "told g2c2;5,5/6,4;1,9/6,4 | changed(0, 1) = 0");
        s.says("of as many votes: one must", "told g2c2;5,5/6,4;5,5/5,5 | changed(0, 1) = 1 | changed(1, 0) = 1");
        s.says("of as many votes: all must", "told g2c2;5,5/10,0;5,5/0,10 | changed(0, 1) = 10");
        s.says("cut to the lesser: what came goes off", "told g2c2;5,5/5,5;1,3/4,0 | changed(0, 1) = 0");
        s.says("cut to the lesser: what went goes off", "told g2c2;5,5/5,5;1,3/4,0 | changed(1, 0) = 0");
        s.says("taken off from the last choice on: not from the first", "told g2c3;5,5/5,3,2;2,3/0,3,2 | changed(0, 1) = 5");
        s.says("taken off from the last choice on: the last is enough", "told g2c3;5,5/3,3,4;4,4/3,3,2 | changed(0, 1) = 0");
        s.says("taken off from the last choice on: then the one ahead",
            "told g2c3;5,5/3,3,4;2,3/3,2,0 | changed(0, 1) = 0 | changed(1, 0) = 0");
        s.says("taken off from the last choice on: then the first", "told g2c3;5,5/5,3,2;1,1/1,0,1 | changed(0, 1) = 1");
        s.says("of no people", "told g2c2;0,0/0,0;5,5/5,5 | changed(0, 1) = 0 | changed(1, 0) = 0");
    }

    private static void parted() {
        s.promise("27 parted");
        s.refuses("at", FOUR, "parted(%, 0, 0, 0)", "BAD", NO_BOX);
        s.refuses("a cell", FOUR, "parted(0, %, 1, 0)", "BAD", NO_CELL);
        s.refuses("so many of the group", FOUR, "parted(0, 0, %, 0)", "BAD", "-1", "6", "MIN", "MAX");
        s.refuses("so many of the other group", FOUR, "parted(0, 10, %, 10)", "BAD", "-1", "4", "5");
        s.refuses("so many of none", FOUR, "parted(2, 0, %, 0)", "BAD", "-1", "1");
        s.refuses("part and what, 0 .. 1 each", FOUR, "parted(0, 0, 1, %)", "BAD", "-1", "-10", "2", "9", "12", "20", "21", "100", "MIN", "MAX");
        s.says("all of it",
            FOUR, "parted(0, 0, 5, 0) = 1 | parted(0, 0, 5, 1) = 4 | parted(0, 0, 5, 10) = 0 | parted(0, 0, 5, 11) = 0");
        s.says("none of it",
            FOUR, "parted(0, 0, 0, 0) = 0 | parted(0, 0, 0, 1) = 0 | parted(0, 0, 0, 10) = 1 | parted(0, 0, 0, 11) = 4");
        s.says("none of none", FOUR, "parted(2, 0, 0, 0) = 0 | parted(2, 0, 0, 11) = 0");
        String ten = "told g2c2;9,1/5,5 | ";
        s.says("the least, one above 0", ten + "parted(0, 0, 6, 0) = 1 | parted(0, 0, 3, 10) = 1");
        s.says("the least, just 0", ten + "parted(0, 0, 5, 0) = 0 | parted(0, 0, 4, 10) = 0");
        s.says("the least, 0 where the sum is below", ten + "parted(0, 0, 4, 0) = 0 | parted(0, 0, 5, 10) = 0");
        s.says("the most: the part is the lesser", ten + "parted(0, 0, 4, 1) = 4 | parted(0, 0, 5, 11) = 4");
        s.says("the most: the choice is the lesser", ten + "parted(0, 0, 6, 1) = 5 | parted(0, 0, 3, 11) = 5");
        s.says("the last group, the last choice",
            "told g4c3;1,1,1,7/2,3,5 | parted(0, 32, 6, 0) = 1 | parted(0, 32, 6, 1) = 5 | parted(0, 32, 6, 11) = 1");
    }

    private static void weight() {
        s.promise("28 weight");
        s.refuses("a matter", FOUR, "weight(%, 0, 1)", "VOID", NO_MATTER);
        s.refuses("a cell", FOUR, "weight(0, %, 1)", "VOID", NO_CELL);
        s.refuses("v -99 .. 99", FOUR + " | weight(0, 0, 7)", "weight(0, 0, %)", "VOID", "-100", "100", "MIN", "MAX");
        s.says("0 at first", FOUR, "weight(0, 0, 5) = 0 | weight(0, 11, 5) = 0");
        s.says("what it was", FOUR, "weight(0, 0, 5) = 0 | weight(0, 0, 6) = 5 | weight(0, 0, 0) = 6 | weight(0, 0, 0) = 0");
        s.says("v -99, the least", FOUR, "weight(0, 0, -99) = 0 | weight(0, 0, 0) = -99");
        s.says("v 99, the greatest", FOUR, "weight(0, 0, 99) = 0 | weight(0, 0, 0) = 99");
        s.says("refused, it stays", FOUR, "weight(0, 0, 7) = 0 | weight(0, 0, 100) = VOID | weight(0, 0, 0) = 7");
        s.says("each cell's own",
            "told g4c3 | weight(0, 32, 5) = 0 | weight(0, 2, 6) = 0 | weight(0, 30, 7) = 0 | weight(0, 32, 0) = 5",
            "weight(0, 2, 0) = 6");
        s.says("each matter's own", FOUR, "told g2c2 | weight(0, 0, 5) = 0 | weight(1, 0, 6) = 0 | weight(0, 0, 0) = 5");
    }

    private static void likeliest() {
        s.promise("29 likeliest");
        s.refuses("at", FOUR, "likeliest(%, 0)", "BAD", NO_BOX);
        s.refuses("a cell", FOUR, "likeliest(0, %)", "BAD", NO_CELL);
        s.says("of like ones the first: all are alike", FOUR, "likeliest(0, 0) = 1 | likeliest(0, 11) = 0");
        s.says("of like ones the first: two are alike",
            "told g3c3;1,1,1/1,1,1 | weight(0, 0, 1)", "likeliest(0, 0) = 1 | likeliest(0, 11) = 0 | likeliest(0, 12) = 1");
        s.says("the greatest, the last", FOUR, "weight(0, 0, 1) | likeliest(0, 0) = 4 | likeliest(0, 11) = 3");
        s.says("the greatest of those below 0",
            FOUR, "weight(0, 0, -99) | weight(0, 1, -99) | weight(0, 10, -1) | likeliest(0, 0) = 4");
        s.says("greater by one",
            "told g2c2;1,1/1,1 | weight(0, 0, 99) | weight(0, 1, 50) | weight(0, 10, 50) | likeliest(0, 0) = 0",
            "weight(0, 11, 2) | likeliest(0, 0) = 1");
        s.says("of one table", FOUR, "likeliest(3, 0) = 6");
        s.says("of no people", "told g2c2;0,0/0,0 | likeliest(0, 11) = 0");
        s.says("20000 tables", MANY, "likeliest(1, 0) = 0 | weight(0, 0, 1) | likeliest(1, 0) = 14");
        s.says("BIG: 20001 tables", MANY, "likeliest(0, 0) = BIG");
        s.says("BAD ahead of BIG", MANY, "likeliest(0, 3) = BAD | likeliest(0, 30) = BAD");
        s.says("BIG is asked of the box alone", MANY, "likeliest(4, 0) = 0");
    }

    private static void weighs() {
        s.promise("30 weighs");
        s.refuses("at", FOUR, "weighs(%, 0)", "VOID", NO_BOX);
        s.refuses("what 0 .. 1", FOUR, "weighs(0, %)", "VOID", NO_END);
        s.says("what 0: 0 at first", FOUR, "weighs(0, 0) = 0");
        s.says("what 1: how much less the next is",
            FOUR, "weight(0, 0, 3) | weight(0, 10, 1) | weighs(0, 0) = 12 | weighs(0, 1) = 2");
        s.says("what 1: by one", FOUR, "weight(0, 0, 1) | weighs(0, 1) = 1");
        s.says("NOT: all have one", FOUR, "weighs(0, 1) = NOT | weight(0, 0, 1) | weight(0, 10, 1) | weighs(0, 1) = NOT");
        s.says("NOT: there is but one", FOUR, "weight(0, 0, 9) | weighs(3, 1) = NOT | weighs(3, 0) = 54");
        s.says("NOT: behind one that has a next",
            FOUR, "weight(0, 0, 9) | weighs(0, 1) = 9 | weighs(3, 1) = NOT | weighs(0, 1) = 9");
        s.says("next to the greatest, not like it",
            "told g3c3;1,1,1/1,1,1 | weight(0, 0, 7)", "weighs(0, 0) = 7 | weighs(0, 1) = 7");
        s.says("next to the greatest, not the least", FOUR, "weight(0, 0, 1) | weighs(0, 0) = 4 | weighs(0, 1) = 1");
        s.says("next to the greatest, where the first is", FOUR, "weight(0, 0, -1) | weighs(0, 0) = -1 | weighs(0, 1) = 1");
        s.says("the greatest that can be",
            LARGEST + " | told g2c2;99,99/99,99", "weight(1, 0, 99) | weight(1, 11, 99) | weighs(100, 0) = 19602",
            "weighs(100, 1) = 198");
        s.says("the least that can be",
            "told g2c2;99,99/99,99", "weight(0, 0, -99) | weight(0, 1, -99) | weight(0, 10, -99)",
            "weight(0, 11, -99) | weighs(0, 0) = -19602 | weighs(0, 1) = NOT");
        s.says("of no people", "told g2c2;0,0/0,0 | weight(0, 0, 9) | weighs(0, 0) = 0 | weighs(0, 1) = NOT");
        s.says("20000 tables", MANY, "weighs(1, 0) = 0 | weighs(1, 1) = NOT");
        s.says("BIG: 20001 tables", MANY, "weighs(0, 0) = BIG");
        s.says("NOT stands in brackets: behind BIG", MANY, "weighs(0, 1) = BIG");
        s.says("VOID ahead of BIG", MANY, "weighs(0, 2) = VOID | weighs(0, -1) = VOID");
    }

    private static void chance() {
        s.promise("31 chance");
        s.refuses("at", FOUR, "chance(%, 0, 0)", "BAD", NO_BOX);
        s.refuses("a cell", FOUR, "chance(0, %, 0)", "BAD", NO_CELL);
        s.refuses("v 0 .. 999", FOUR, "chance(0, 0, %)", "BAD", "-1", "1000", "MIN", "MAX");
        s.says("v 0, the least", FOUR, "chance(0, 0, 0) = 1000");
        s.says("v 999, the greatest", FOUR, "chance(0, 0, 999) = 0");
        s.says("just the least that it can be", FOUR, "chance(0, 0, 1) = 1000");
        s.says("one more than the least", FOUR, "chance(0, 0, 2) = 750");
        s.says("just the most that it can be", FOUR, "chance(0, 0, 4) = 250");
        s.says("one more than the most", FOUR, "chance(0, 0, 5) = 0");
        s.says("more than its group, not more than its choice",
            "told g2c2;1,40/30,11;40,1/30,11 | chance(0, 0, 2) = 0 | chance(0, 0, 20) = 0 | chance(1, 10, 2) = 0",
            "chance(1, 10, 20) = 0");
        s.says("more than its choice, not more than its group",
            "told g2c3;40,10/1,30,19;40,10/30,19,1 | chance(0, 0, 2) = 0 | chance(0, 0, 20) = 0",
            "chance(1, 2, 2) = 0 | chance(1, 2, 20) = 0");
        s.says("cut: 1 of 3, 2 of 3", FOUR, "chance(1, 0, 2) = 333 | chance(1, 0, 1) = 666");
        s.says("of one table", FOUR, "chance(3, 0, 6) = 1000 | chance(3, 0, 7) = 0");
        s.says("of no people", "told g2c2;0,0/0,0 | chance(0, 0, 0) = 1000 | chance(0, 0, 1) = 0");
        s.says("20000 tables", MANY, "chance(1, 0, 0) = 1000 | chance(1, 0, 15) = 0");
        s.says("BIG: 20001 tables", MANY, "chance(0, 0, 0) = BIG | chance(0, 0, 999) = BIG");
        s.says("BAD ahead of BIG", MANY, "chance(0, 0, 1000) = BAD | chance(0, 3, 0) = BAD | chance(0, 0, -1) = BAD");
    }
}
