/** The terms, parts 1 to 6, and the paragraph on answers: a test for each sentence that names an edge. */
public final class TermEdgesTest {
    /**
     * Tables of its boxes: 0: 1,4/3,0 2,3/2,1 3,2/1,2 4,1/0,3; 1: 0,2/3,3 1,1/2,4 2,0/1,5; 2: 0,0/1,3; 3: 6,3/0,0.
     */
    private static final String FOUR = "told g2c2;5,3/4,4;2,6/3,5;0,4/1,3;9,0/6,3";
    private static final String LARGEST = "told g4c3;75,74,74,74/99,99,99";
    /** Boxes of 20001, 20000 and 2 tables. */
    private static final String MANY = "told g3c3;27,20,19/17,15,34;14,27,27/18,16,34;1,1,0/1,1,0";
    private static final String FOUR_MATTERS = "told g2c2 | told g2c2 | told g2c2 | told g4c3";
    private static final String ONE = ";1,1/1,1";

    private static final Sentences s = new Sentences();

    public static void main(String[] args) {
        calls();
        matters();
        tape();
        head();
        sums();
        faults();
        uneven();
        tables();
        ends();
        held();
        known();
        claims();
        dots();
        wrongs();
        drawn();
        twice();
        years();
        opened();
        weights();
        knowings();
        shelves();
        refusals();
        constants();
        order();
        s.end();
    }

    private static void calls() {
        s.promise("what it is");
        s.says("the 512th call answers, too", "509 times count(0) | tape g2c2 | matter() = 0 | of(0, 0) = 2");
        s.says("all calls may change something",
            "50 times knowing(6) | 460 times act(49, 3, 1) | act(49, 3, 0) = 300 | count(5) = 8");
        s.says("all calls may be of the dearest", MANY,
            "hold(0, 0, 0, 100, 17) | hold(0, 1, 0, 100, 15) | 100 times none(0, 3) | none(0, 3) = 2",
            "by(0, 3, 0, 0) = NOT");
    }

    private static void matters() {
        s.promise("terms 1, matters 0 .. 3");
        s.says("the least", "told g2c2 | of(0, 0) = 2 | of(-1, 0) = BAD");
        s.says("the greatest", FOUR_MATTERS, "of(3, 0) = 4 | of(4, 0) = BAD");
        s.says("a fifth", FOUR_MATTERS, "tape g2c2 | matter() = FULL");
        s.promise("terms 1, boxes 0 .. 11");
        s.says("none", "told g2c2 | of(0, 2) = 0 | sum(0, 20) = BAD");
        s.says("the greatest", "told g2c2" + ONE.repeat(12), "of(0, 2) = 12 | sum(11, 20) = 2 | sum(12, 20) = BAD");
        s.says("the ; ahead of a thirteenth is the fault", "tape g2c2" + ONE.repeat(13), "matter() = -200");
        s.says("the ; ahead of a thirteenth is the fault, though nothing is behind it",
            "tape g2c2" + ONE.repeat(12) + ";", "matter() = -200");
        s.says("ahead of a thirteenth no other sign goes on", "tape g2c2" + ONE.repeat(12) + "x", "matter() = -200");
        s.says("the ; ahead of the twelfth is none", "tape g2c2" + ONE.repeat(11) + ";", "matter() = -193");
    }

    private static void tape() {
        s.promise("terms 1, the tape");
        String full = "g4c3" + ";10,10,10,10/20,10,10".repeat(8) + ";1,1,1,1/2,1,1".repeat(2);
        s.says("at most 200 bytes: all of them are read",
            "tape " + full, "count(1) = 200 | matter() = 0 | of(0, 2) = 10 | sum(9, 20) = 4");
        s.says("at most 200 bytes: one more does not come", "tape " + full, "feed(1, 0) = FULL | matter() = 0");
        s.says("the lowest byte first", "feed(4, 0x32633267) = 4 | matter() = 0");
    }

    private static void head() {
        s.promise("terms 1, g DIGIT c DIGIT");
        s.says("groups: the least", "tape g2c2 | matter() = 0 | of(0, 0) = 2");
        s.says("groups: one below the least", "tape g1c2 | matter() = -101");
        s.says("groups: none", "tape g0c2 | matter() = -101");
        s.says("groups: the greatest", "tape g4c2 | matter() = 0 | of(0, 0) = 4");
        s.says("groups: one above the greatest", "tape g5c2 | matter() = -101");
        s.says("groups: the greatest digit", "tape g9c2 | matter() = -101");
        s.says("groups: signs beside the digits", "tape g/c2 | matter() = -101 | tape g:c2 | matter() = -101");
        s.says("groups: two digits", "tape g22c2 | matter() = -102 | tape g02c2 | matter() = -101");
        s.says("choices: the least", "tape g2c2 | matter() = 0 | of(0, 1) = 2");
        s.says("choices: one below the least", "tape g2c1 | matter() = -103");
        s.says("choices: the greatest", "tape g2c3 | matter() = 0 | of(0, 1) = 3");
        s.says("choices: one above the greatest, though groups have it", "tape g4c4 | matter() = -103");
        s.says("choices: signs beside the digits", "tape g2c/ | matter() = -103 | tape g2c: | matter() = -103");
        s.says("choices: two digits", "tape g2c22 | matter() = -104 | tape g2c02 | matter() = -103");
        s.says("g is no other sign",
            "tape G2c2 | matter() = -100 | tape h2c2 | matter() = -100 | tape c2g2 | matter() = -100");
        s.says("c is no other sign",
            "tape g2C2 | matter() = -102 | tape g2g2 | matter() = -102 | tape g22 | matter() = -102");
        s.says("no blanks", "tape g2c2;1,1/1,1 | matter() = 0 | feed(1, 32) = 1 | tape g2c2 | matter() = -100");
        s.says("no blank behind g", "feed(3, 0x322067) = 3 | matter() = -101");
        s.says("no blank behind it", "tape g2c2 | feed(1, 32) = 5 | matter() = -104");
        s.says("no blank ahead of a number", "tape g2c2; | feed(1, 32) = 6 | tape 1,1/1,1 | matter() = -105");
        s.says("no blank behind a number", "tape g2c2;1 | feed(1, 32) = 7 | tape ,1/1,1 | matter() = -106");
        s.says("no blank behind a box", "tape g2c2;1,1/1,1 | feed(1, 32) = 13 | matter() = -112");
        s.says("no end of a line behind a box", "tape g2c2;1,1/1,1 | feed(1, 10) = 13 | matter() = -112");
    }

    private static void sums() {
        s.promise("terms 1, sums / sums");
        s.says("1 digit, the least and the greatest", "tape g2c2;0,9/9,0 | matter() = 0 | sum(0, 0) = 0 | sum(0, 1) = 9");
        s.says("2 digits, the least and the greatest",
            "tape g2c2;10,99/99,10 | matter() = 0 | sum(0, 0) = 10 | sum(0, 1) = 99");
        s.says("2 digits, the first is 0", "tape g2c2;00,07/7,0 | matter() = 0 | sum(0, 0) = 0 | sum(0, 1) = 7");
        s.says("no digit: by group", "tape g2c2;,1/1,1 | matter() = -105");
        s.says("no digit: by choice", "tape g2c2;1,1/,1 | matter() = -109");
        s.says("no digit: the last", "tape g2c2;1,1/1,; | matter() = -111");
        s.says("3 digits: by group", "tape g2c2;100,1/1,100 | matter() = -107");
        s.says("3 digits: by choice, the last", "tape g2c2;1,1/1,001 | matter() = -113");
        s.says("3 digits: the first is 0", "tape g2c2;001,1/1,1 | matter() = -107");
        s.says("no sign ahead of a number", "tape g2c2;-1,1/0,0 | matter() = -105 | tape g2c2;+1,1/1,1 | matter() = -105");
        s.says("signs beside the digits", "tape g2c2;:,1/1,1 | matter() = -105 | tape g2c2;1:,1/1,1 | matter() = -106");
        s.says("as many as groups: one less", "tape g3c2;1,1/1,1 | matter() = -108");
        s.says("as many as groups: one more", "tape g2c2;1,1,1/1,1 | matter() = -108");
        s.says("as many as choices: one less", "tape g2c3;1,1/1,1;1,1/1,1,0 | matter() = -112");
        s.says("as many as choices: one less, at the end", "tape g2c3;1,1/1,1 | matter() = -112");
        s.says("as many as choices: one more", "tape g2c2;1,1/1,1,0 | matter() = -112");
        s.says("as many as groups: four", "tape g4c2;1,2,3,4/9,1 | matter() = 0 | sum(0, 3) = 4 | sum(0, 10) = 9");
        s.says("parted by , not by /", "tape g3c2;1/1,1/1,1 | matter() = -106");
        s.says("parted by , not by ;", "tape g2c2;1;1/1,1 | matter() = -106");
        s.says("/ and not , between both", "tape g2c2;1,1,1,1 | matter() = -108");
        s.says("/ and not , between the choices", "tape g2c2;1,1/1/1 | matter() = -110");
        s.says("; and not , behind a box", "tape g2c2;1,1/1,1,1,1/1,1 | matter() = -112");
    }

    private static void faults() {
        s.promise("terms 1, fault");
        String text = "g2c3;12,3/4,5,6";
        for (int end = 0; end < text.length(); end++) {
            if (end == 4) continue;
            s.says("the length, if it ends too early: " + end, end == 0 ? "count(1) = 0" : "tape " + text.substring(0, end), "matter() = " + (-100 - end));
        }
        s.says("a text that may end there", "tape g2c3 | matter() = 0");
        for (int place = 0; place < text.length(); place++) {
            String bad = text.substring(0, place) + "x" + text.substring(place + 1);
            s.says("the place of the first byte with which no text goes on: " + place, "tape " + bad, "matter() = " + (-100 - place));
        }
        s.says("the first of two", "tape g2x2;x | matter() = -102");
        s.says("behind the whole text", "tape " + text + "x", "matter() = -115");
        s.says("the second box's", "tape g2c2;1,1/1,1;1,1/1,1x | matter() = -120");
        s.says("byte 255 goes on with none", "feed(1, 255) = 1 | matter() = -100");
    }

    private static void uneven() {
        s.promise("terms 1, uneven");
        s.says("one more by group", "tape g2c2;1,1/1,0 | matter() = -400");
        s.says("one more by choice", "tape g2c2;1,1/1,2 | matter() = -400");
        s.says("none by group", "tape g2c2;0,0/0,1 | matter() = -400");
        s.says("alike in all, however unlike each", "tape g4c3;99,99,0,0/66,66,66 | matter() = 0 | sum(0, 20) = 198");
        s.says("the most by group are not the most by choice", "tape g4c3;99,99,99,99/99,99,99 | matter() = -400");
        s.says("all groups count", "tape g4c2;1,1,1,1/1,2 | matter() = -400 | tape g4c2;1,1,1,1/2,2 | matter() = 0");
        s.says("all choices count", "tape g2c3;1,1/1,1,1 | matter() = -400 | tape g2c3;1,1/1,0,1 | matter() = 0");
        s.says("the box, not the byte", "tape g2c2;1,1/1,1;10,10/10,11 | matter() = -401");
    }

    private static void tables() {
        s.promise("terms 1, tables");
        s.says("0 or more for each cell: 0", "told g2c2;0,4/1,3 | row 0 2: 0 0 1 3 | may(0, 0, 0) = NOT");
        s.says("0 or more for each cell: -1", "told g2c2;1,1/1,1 | row 0 2: 2 -1 -1 2 | may(0, 0, 0) = 1");
        s.says("all sums are kept: of a group", "told g2c2;1,1/1,1 | row 0 2: 0 0 1 1 | may(0, 0, 0) = 1");
        s.says("all sums are kept: of a choice", "told g2c2;1,1/1,1 | row 0 2: 1 0 1 0 | may(0, 0, 0) = 10");
        s.says("in order: the first number counts most", "told g2c2;1,1/1,1 | table(0, 0, 0) = 0 | table(0, 1, 0) = 1");
        s.says("in order: choice by choice",
            "told g2c3;1,2/1,1,1 | table(0, 0, 2) = 1 | table(0, 1, 1) = 1 | table(0, 2, 0) = 1");
        s.says("in order: group by group",
            "told g3c2;1,1,1/1,2 | table(0, 0, 20) = 1 | table(0, 1, 10) = 1 | table(0, 2, 0) = 1");
        s.says("how many: one", "told g2c2;4,0/3,1 | many(0) = 1");
        s.says("how many: of two cells' room", "told g2c2;1,1/1,1 | many(0) = 2");
        s.says("how many: a long", LARGEST, "many(0) = 9005636100");
    }

    private static void ends() {
        s.promise("terms 1, ends");
        s.says("r + k - n: just 0", "told g2c2;3,4/4,3 | ends(0, 0, 0) = 0");
        s.says("r + k - n: 1", "told g2c2;4,3/4,3 | ends(0, 0, 0) = 1");
        s.says("r + k - n: 0 at least", "told g2c2;3,4/3,4 | ends(0, 0, 0) = 0");
        s.says("the lesser: r", "told g2c2;3,4/4,3 | ends(0, 0, 1) = 3");
        s.says("the lesser: k", "told g2c2;4,3/3,4 | ends(0, 0, 1) = 3");
        s.says("the lesser: both", "told g2c2;4,3/4,3 | ends(0, 0, 1) = 4");
        s.says("n is that of the box, not of the matter", "told g2c2;4,3/4,3;9,9/9,9 | ends(0, 0, 0) = 1");
        s.says("in all: sums over all boxes", "told g2c2;4,3/4,3;3,4/3,4;1,0/1,0 | inAll(0, 0, 0) = 2 | inAll(0, 0, 1) = 8");
        s.says("in all: of the matter", FOUR, "told g2c2;1,0/1,0 | inAll(1, 0, 1) = 1 | inAll(0, 0, 1) = 12");
        s.says("share: cut", "told g2c2;3,1/2,2 | inAll(0, 0, 2) = 333 | inAll(0, 0, 3) = 666");
        s.says("share: of the group in all, not of one box", "told g2c2;3,0/3,0;0,1/1,0;3,0/0,3 | inAll(0, 0, 3) = 500");
        s.says("share: void where the group is 0 in all",
            "told g2c2;0,3/3,0 | inAll(0, 1, 2) = VOID | inAll(0, 1, 3) = VOID");
        s.says("sure: wide 0", "told g2c2;3,0/2,1 | sure(0, 0) = 1");
        s.says("sure: not wide 1", "told g2c2;1,1/1,1 | sure(0, 0) = 0");
    }

    private static void held() {
        s.promise("terms 2, held things");
        s.says("0 .. 7: the last is 7",
            FOUR, "7 times hold(0, 0, 0, 0, 4) | hold(0, 0, 0, 0, 4) = 7 | hold(0, 0, 0, 0, 4) = FULL");
        s.says("v 0 .. 999: the least", FOUR, "hold(0, 0, 0, 2, 0) = 0 | hold(0, 0, 0, 2, -1) = BAD");
        s.says("v 0 .. 999: the greatest", FOUR, "hold(0, 1, 0, 2, 999) = 0 | hold(0, 1, 0, 2, 1000) = BAD");
        s.says("sorts 0 .. 3: the least", FOUR, "hold(0, 0, 0, 0, 1) = 0 | hold(0, -1, 0, 0, 1) = BAD");
        s.says("sorts 0 .. 3: the greatest", FOUR, "hold(0, 3, 0, 1, 1) = 0 | hold(0, 4, 0, 1, 1) = BAD");
        s.says("of 2 and 3 the other box is told",
            FOUR, "hold(0, 2, 0, 4, 1) = BAD | hold(0, 3, 0, 4, 1) = BAD | hold(0, 2, 0, 3, 1) = 0");
        s.says("of 0 and 1 it is not", FOUR, "hold(0, 0, 0, 4, 1) = 0 | hold(0, 1, 0, 4, 1) = 1");
    }

    private static void known() {
        s.promise("terms 2, known by a set");
        s.says("20000 rows are gone through", MANY, "hold(0, 0, 0, 100, 3) | by(0, 1, 0, 1) = 21");
        s.says("above 20000: BIG", MANY, "hold(0, 0, 0, 0, 3) | by(0, 1, 0, 1) = BIG");
        s.says("20000 times 2 is above", MANY, "hold(0, 2, 0, 102, 1) | by(0, 1, 0, 1) = BIG");
        s.says("others by ends, though they are many",
            MANY, "hold(0, 0, 0, 200, 0) | by(0, 1, 0, 0) = 0 | by(0, 1, 0, 1) = 31");
        s.says("none: there is no such row", FOUR, "hold(0, 0, 0, 0, 0) | by(0, 1, 0, 0) = NOT");
        s.says("none: one row is enough", FOUR, "hold(0, 0, 0, 0, 1) | by(0, 1, 0, 0) = 7 | by(0, 1, 0, 1) = 9");
        s.says("none: two that can't be at once", FOUR, "hold(0, 0, 0, 0, 2) | hold(0, 1, 0, 0, 3) | by(0, 3, 0, 0) = NOT");
        s.says("none: two that just can",
            FOUR, "hold(0, 0, 0, 0, 3) | hold(0, 1, 0, 0, 3) | by(0, 3, 0, 0) = 9 | by(0, 3, 0, 1) = 11");
        s.says("of the cells of one box, one table",
            "told g2c2;9,9/9,9 | hold(0, 1, 0, 0, 5) | hold(0, 1, 11, 0, 6) | hold(0, 1, 10, 0, 4)",
            "by(0, 3, 0, 0) = 6 | by(0, 7, 0, 0) = NOT");
    }

    private static void claims() {
        s.promise("terms 2, none together, claims, must");
        s.says("none together: the fewest",
            FOUR, "hold(0, 0, 0, 0, 2) | hold(0, 1, 0, 0, 3) | hold(0, 1, 0, 0, 5) | none(0, 7) = 4");
        s.says("none together: of like ones the least",
            FOUR, "hold(0, 0, 0, 0, 2) | hold(0, 1, 0, 0, 3) | hold(0, 1, 0, 0, 4) | none(0, 7) = 3");
        s.says("none together: all of the told let some",
            FOUR, "hold(0, 0, 0, 0, 3) | hold(0, 1, 0, 0, 3) | none(0, 3) = NOT");
        s.says("follows: the least is v", FOUR, "claim(0, 0, 0, 7) = 2");
        s.says("follows: the least is more than v", FOUR, "claim(0, 0, 0, 6) = 2");
        s.says("may be: the least is less than v", FOUR, "claim(0, 0, 0, 8) = 1");
        s.says("may be: the most is v", FOUR, "claim(0, 0, 0, 12) = 1");
        s.says("can't be: the most is less than v", FOUR, "claim(0, 0, 0, 13) = 0");
        s.says("follows by none", FOUR, "hold(0, 0, 0, 0, 0) | claim(0, 1, 0, 13) = 2");
        s.says("must: not by none", FOUR, "hold(0, 0, 0, 0, 0) | must(0, 1, 0, 8) = NOT");
        s.says("must: the fewest",
            FOUR, "hold(0, 1, 0, 0, 2) | hold(0, 1, 0, 100, 1) | hold(0, 1, 0, 0, 3) | must(0, 7, 0, 9) = 4");
        s.says("must: then the least",
            FOUR, "hold(0, 1, 0, 0, 2) | hold(0, 1, 0, 100, 1) | hold(0, 1, 0, 100, 1) | must(0, 7, 0, 9) = 3");
        s.says("must: a set that lets some, of one that does not",
            FOUR, "hold(0, 0, 0, 0, 0) | hold(0, 1, 0, 100, 1) | must(0, 3, 0, 8) = 2");
        s.says("must: NOT, by none", FOUR, "hold(0, 1, 0, 0, 2) | must(0, 1, 0, 9) = NOT");
    }

    private static void dots() {
        s.promise("terms 3, the line");
        s.says("a dot where people are: one", "told g2c2;1,0/1,0;0,1/0,1 | line(0, 1000) = 1000 | line(0, 0) = 0");
        s.says("no dot where none are", "told g2c2;1,0/1,0;0,0/0,0 | line(0, 1000) = VOID");
        s.says("x is cut", "told g2c2;2,1/0,3;0,1/1,0 | line(0, 666) = 0");
        s.says("y is cut", "told g2c2;1,2/2,1;0,3/2,1 | line(0, 0) = 666");
        s.says("toward below: just below a whole one", "told g2c2;1,2/0,3;1,0/1,0 | line(0, 332) = -2");
        s.says("NOT if B is 0", "told g2c2;1,1/1,1;2,2/0,4 | line(0, 500) = VOID | wrong(0, -1) = NOT");
        s.says("not if A is 0", "told g2c2;1,1/1,1;1,2/3,0;2,1/3,0 | line(0, 500) = 833");
    }

    private static void wrongs() {
        s.promise("terms 3, wrong");
        s.says("below the least, cut",
            "told g2c2;0,1/0,1;3,0/2,1;3,0/2,1;98,0/65,33 | line(0, 1000) = 665 | wrong(0, 0) = 1");
        s.says("just the least, cut", "told g2c2;0,1/0,1;3,0/2,1 | line(0, 1000) = 666 | wrong(0, -1) = 0");
        s.says("above the most, cut up", "told g2c2;0,1/0,1;3,0/2,1;97,0/65,32 | line(0, 1000) = 668 | wrong(0, 0) = 1");
        s.says("just the most, cut up",
            "told g2c2;0,1/0,1;3,0/2,1;3,0/2,1;97,0/65,32 | line(0, 1000) = 667 | wrong(0, 0) = 3");
        s.says("where group 0 is there: one of it",
            "told g2c2;1,0/0,1;0,1/0,1;1,0/1,0 | line(0, 1000) = 500 | wrong(0, -1) = 2 | wrong(0, 1) = 2");
        s.says("not where it is not there", "told g2c2;0,1/0,1;1,0/1,0 | line(0, 1000) = 1000 | wrong(0, -1) = 0");
        s.says("at x 1000, not at the box's x",
            "told g2c2;0,1/0,1;1,1/2,0 | line(0, 500) = 1000 | line(0, 1000) = 2000 | wrong(0, -1) = 1");
    }

    private static void drawn() {
        s.promise("terms 3, drawn by a seed");
        s.says("the product wraps", FOUR, "drawn(0, GREATEST, 0) = 2 | drawn(0, LEAST, 0) = 3");
        s.says("the highest bit is no sign behind >>> 20", FOUR, "drawn(0, 2, 0) = 2 | drawn(0, -1, 0) = 2");
        s.says("its number is from 0", "told g2c2;1,1/1,1 | drawn(0, 0, 0) = 0 | drawn(0, 1, 0) = 1");
        s.says("% how many", FOUR, "drawn(0, 0, 0) = 3 | drawn(1, 0, 0) = 2 | drawn(2, 0, 0) = 0");
        s.says("above 20000 there is no BIG", MANY, "drawn(0, 0, 0) = 12 | many(0) = 20001");
    }

    private static void twice() {
        s.promise("terms 4, twice");
        s.says("as many votes in all: one less", FOUR, "second(0, 3004) = BAD");
        s.says("as many votes in all: one more", FOUR, "second(0, 3006) = BAD");
        s.says("as many votes in all", FOUR, "second(0, 3005) = 1");
        s.says("as many sums as choices: three digits of two", FOUR, "second(0, 1003004) = BAD");
        s.says("split: r + k - n is 0 at least", FOUR, "second(0, 3005) = 1 | split(0, 0, 0) = 0 | split(0, 1, 0) = 1");
        s.says("split: the lesser", FOUR, "second(0, 3005) = 1 | split(0, 0, 1) = 3 | split(0, 1, 1) = 4");
        s.says("the least that must have: the lesser of both sums", FOUR, "second(0, 8000) = 1 | splits(0, 0) = 4");
        s.says("the most that can have: 0 at least is alike",
            "told g2c3;1,2/1,1,1 | second(0, 1001001) = 1 | splits(0, 1) = 3");
        s.says("the most that can have: one is alike", "told g2c3;1,2/2,1,0 | second(0, 2001000) = 1 | splits(0, 1) = 2");
        s.promise("terms 4, parted anew");
        s.says("the first so many and the rest", FOUR, "parted(0, 0, 2, 1) = 2 | parted(0, 0, 2, 11) = 3");
        s.says("none of it, all the rest", FOUR, "parted(0, 0, 0, 1) = 0 | parted(0, 0, 0, 11) = 4");
        s.says("all of it, none the rest", FOUR, "parted(0, 0, 5, 1) = 4 | parted(0, 0, 5, 11) = 0");
        s.says("more than all of it", FOUR, "parted(0, 0, 6, 1) = BAD");
    }

    private static void years() {
        s.promise("terms 4, last year");
        s.says("cut to the lesser: one more than last year", "told g2c2;5,5/5,5;5,4/5,4 | changed(0, 1) = 0");
        s.says("cut to the lesser: one less than last year", "told g2c2;5,5/5,5;5,4/5,4 | changed(1, 0) = 0");
        s.says("taken off from the last choice on", "told g2c2;5,5/5,5;5,4/4,5 | changed(0, 1) = 1");
        s.says("taken off over more choices than one", "told g2c3;5,5/4,3,3;2,3/5,0,0 | changed(0, 1) = 1");
        s.says("all are taken off", "told g2c2;5,5/5,5;0,0/0,0 | changed(0, 1) = 0");
    }

    private static void opened() {
        s.promise("terms 4, opened, next");
        String row = FOUR + " | row 0 2: 2 3 2 1 | open(0, 0, 0) = 1";
        s.says("its ends are what it is: each cell", row,
            "ends(0, 0, 0) = 2 | ends(0, 1, 1) = 3 | ends(0, 10, 0) = 2 | ends(0, 11, 1) = 1");
        s.says("next: not the opened one", row, "next(0, 0) = 1");
        s.says("next: of like ones the least", "told g2c2;2,2/2,2;2,2/2,2 | next(0, 0) = 0");
        s.says("next: none is above 0", "told g2c2;2,0/1,1 | next(0, 0) = NOT");
        s.says("next: one is 1", "told g2c2;2,1/1,2 | next(0, 0) = 0");
        s.says("how many must be opened: wide by v at most", FOUR, "opens(0, 0, 5) = 0 | opens(0, 0, 4) = 1");
        s.says("how many must be opened: widest first", "told g2c2;1,1/1,1;3,3/3,3 | opens(0, 0, 1) = 1");
    }

    private static void weights() {
        s.promise("terms 5, weights");
        s.says("-99, the least, -100", FOUR, "weight(0, 0, -99) = 0 | weight(0, 0, -100) = VOID | weight(0, 0, 0) = -99");
        s.says("99, the greatest, 100", FOUR, "weight(0, 0, 99) = 0 | weight(0, 0, 100) = VOID | weight(0, 0, 0) = 99");
        s.says("0 at first", FOUR, "weight(0, 0, 1) = 0 | weight(0, 11, 1) = 0 | weighs(3, 0) = 6");
        s.says("likeliest: of like ones the first", "told g2c2;1,1/1,1 | likeliest(0, 0) = 0");
        s.says("likeliest: 20000", MANY, "likeliest(1, 0) = 0");
        s.says("likeliest: 20001", MANY, "likeliest(0, 0) = BIG");
        s.says("second: NOT, all have one", "told g2c2;1,1/1,1 | weighs(0, 1) = NOT");
        s.says("second: 1 less", "told g2c2;1,1/1,1 | weight(0, 0, 1) | weighs(0, 1) = 1");
        s.says("chance: cut", FOUR, "chance(1, 0, 1) = 666");
        s.says("chance: 20000", MANY, "chance(1, 0, 0) = 1000");
        s.says("chance: 20001", MANY, "chance(0, 0, 0) = BIG");
    }

    private static void knowings() {
        s.promise("terms 6, knowings");
        s.says("0 .. 49, as they come", "knowing(1) = 0 | 48 times knowing(1) | knowing(1) = 49 | knowing(1) = FULL");
        s.says("an int that wraps", "knowing(0) | act(0, 1, 0x7fffffff) = -2");
        s.says("the trace: of the latest act", "knowing(0) | act(0, 1, 5) | act(0, 2, 5) | trace(0) = 11 | trace(1) = BAD");
        s.says("the trace: as they began",
            "knowing(1) | act(0, 1, 5) | trace(0) = 10 | trace(1) = 20 | trace(2) = 1 | trace(3) = BAD");
    }

    private static void shelves() {
        s.promise("terms 6, shelves");
        s.says("0 .. 5: the least", "row(0, 2, 1) = 1 | row(-1, 2, 1) = BAD");
        s.says("0 .. 5: the greatest", "row(5, 2, 1) = 1 | row(6, 2, 1) = BAD");
        s.says("nothing at first", "put(0, 0, 1) = -11 | put(5, 0, 1) = -11");
        s.says("0 elements", "row(0, 2, 0) = 1 | element(0, 0) = LEAST");
        s.says("60 elements", "row(0, 2, 60) = 1 | element(0, 59) = 0 | row(0, 2, 61) = BAD");
        s.says("0 at first, false", "row(0, 4, 1) = 1 | element(0, 0) = 0");
        s.says("the lowest bits: of a byte", "row 0 0: 384 | element(0, 0) = -128");
        s.says("the lowest bits: of a short", "row 0 1: 98304 | element(0, 0) = -32768");
        s.says("the lowest bits: of an int", "row 0 2: 6442450944 | element(0, 0) = -2147483648");
        s.says("a boolean: whether it is not 0", "row 0 4: 2 | element(0, 0) = 1");
        s.promise("terms 6, boxes from a row");
        s.says("99, the greatest, 100", "told g2c2 | row 0 1: 99 0 0 99 100 0 0 100 | boxes(0, 0, 0, 2) = 1");
        s.says("0, the least, -1", "told g2c2 | row 0 1: 0 0 0 0 -1 1 0 0 | boxes(0, 0, 0, 2) = 1");
        s.says("even", "told g2c2 | row 0 1: 1 0 0 1 1 0 0 2 | boxes(0, 0, 0, 2) = 1");
        s.says("ends within a box", "told g2c2 | row 0 1: 1 0 0 1 1 0 0 | boxes(0, 0, 0, 2) = 1");
        s.says("the row is missing", "told g2c2 | boxes(0, 0, 0, 2) = 0");
        s.says("the matter is full", "told g2c2" + ONE.repeat(11), "row 0 1: 1 0 0 1 1 0 0 1 | boxes(0, 0, 0, 2) = 1");
    }

    private static void refusals() {
        s.promise("terms 6, the host's refusals");
        s.says("-11: nothing is there", "put(0, 0, 1) = -11");
        s.says("-12: it is of another kind", "knowing(0) | keep(0, 0) | put(0, 0, 1) = -12");
        s.says("-13: a place that is not there", "row(0, 2, 1) | put(0, 1, 1) = -13");
        s.says("-14: a size below 0", "row(0, 2, -1) = -14");
    }

    private static void constants() {
        s.promise("answers");
        s.due("BAD is -1", VotedFor.BAD, -1);
        s.due("NOT is -2", VotedFor.NOT, -2);
        s.due("FULL is -3", VotedFor.FULL, -3);
        s.due("BIG is -4", VotedFor.BIG, -4);
        s.due("STATE is -5", VotedFor.STATE, -5);
        s.due("VOID is -2000000000", VotedFor.VOID, -2000000000);
    }

    private static void order() {
        s.promise("answers, which goes first");
        s.says("BAD ahead of all: feed", "50 times feed(4, 0) | feed(0, 0) = BAD");
        s.says("BAD ahead of all: hold", FOUR, "8 times hold(0, 0, 0, 0, 4) | hold(0, 3, 0, 101, 1) = BAD");
        s.says("BAD ahead of all: knowing", "50 times knowing(0) | knowing(7) = BAD");
        s.says("BAD ahead of all: row", "row(0, 9, -9) = BAD");
        s.says("BAD ahead of all: split", FOUR, "split(0, 9, 0) = BAD");
        s.says("BAD ahead of all: chance", MANY, "chance(0, 0, 1000) = BAD");
        s.says("what is named first: -11 to -13 ahead of NOT and STATE", FOUR,
            "row 0 2: 2 3 2 1 | open(0, 0, 0) = 1 | open(0, 1, 0) = -11 | open(0, 0, 1) = -13");
        s.says("what is named first: NOT ahead of STATE",
            FOUR, "row 0 2: 2 3 2 1 0 | open(0, 0, 0) = 1 | open(0, 0, 1) = NOT");
        s.says("what is named first: BIG ahead of NOT in by",
            MANY, "hold(0, 0, 0, 0, 0) | hold(0, 1, 0, 0, 18) | by(0, 3, 0, 0) = BIG");
        s.says("in brackets, behind all: NOT in weighs", MANY, "weighs(0, 1) = BIG");
        s.says("in brackets, behind all: VOID in inAll",
            "told g2c2;0,1/1,0 | inAll(0, 0, 4) = VOID | inAll(0, 0, 2) = VOID");
        s.says("in matter, FULL ahead of a fault", FOUR_MATTERS, "tape x | matter() = FULL | count(1) = 1");
        s.says("in matter, FULL ahead of an uneven box",
            FOUR_MATTERS, "tape g2c2;0,0/0,1 | matter() = FULL | count(1) = 12");
        s.says("in matter, a fault ahead of an uneven box", "tape g2c2;0,0/0,1; | matter() = -113");
        s.says("in wrong, NOT ahead of BAD for none such", "told g2c2 | wrong(0, 0) = NOT");
        s.says("in wrong, BAD for i below -1 ahead of NOT", "told g2c2 | wrong(0, -2) = BAD");
    }
}
