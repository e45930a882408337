/**
 * Who voted for whom: what is sure, and what may be, of boxes that nobody looks into.
 *
 * A cell is named by 10 * group + choice towards the caller, and by its place 3 * group + choice inside: sums of
 * groups and choices that a matter lacks are 0, so that every box is gone through as one of 4 groups and 3 choices.
 */
public final class VotedFor {
    public static final int BAD = -1, NOT = -2, FULL = -3, BIG = -4, STATE = -5, VOID = -2000000000;

    private static final int NOTHING = -11, UNLIKE = -12, NO_PLACE = -13, NO_SIZE = -14;
    private static final int MOST_MATTERS = 4, MOST_BOXES = 12, MOST_HELD = 8, MOST_KNOWINGS = 50, SHELVES = 6;
    private static final int GROUPS = 4, CHOICES = 3, PLACES = 12;
    private static final int MOST_GONE_THROUGH = 20000;
    private static final long MOST_NUMBERED = 1000000000000L;

    private final Tape tape = new Tape();
    private final Matter[] matters = new Matter[MOST_MATTERS];
    private final Knowing[] knowings = new Knowing[MOST_KNOWINGS];
    private final Shelf[] shelves = new Shelf[SHELVES];
    private final Trace ran = new Trace();
    private final Tables tables = new Tables();
    private final Known known = new Known();
    private final Likely likely = new Likely();
    private final int[] sums = new int[GROUPS + CHOICES];
    private int matterCount;
    private int knowingCount;

    public VotedFor() {
        for (int s = 0; s < SHELVES; s++) shelves[s] = new Shelf();
    }

    // ---- matters

    public int feed(int n, int v) {
        if (n < 1 || n > 4) return BAD;
        return tape.take(n, v) ? tape.length : FULL;
    }

    public int matter() {
        if (matterCount >= MOST_MATTERS) return FULL;
        boolean told = tape.isRead();
        int fault = tape.place;
        int uneven = told ? tape.firstUneven() : -1;
        tape.length = 0;
        if (!told) return -100 - fault;
        if (uneven >= 0) return -400 - uneven;
        matters[matterCount] = tape.newMatter();
        return matterCount++;
    }

    public int of(int matter, int what) {
        Matter m = matterAt(matter);
        if (m == null) return BAD;
        switch (what) {
            case 0: return m.groups;
            case 1: return m.choices;
            case 2: return m.boxCount;
            case 3: return m.heldCount;
            default: return BAD;
        }
    }

    public int sum(int at, int what) {
        Box box = boxAt(at);
        if (box == null) return BAD;
        Matter m = box.of;
        if (what >= 0 && what < m.groups) return box.byGroup[what];
        if (what >= 10 && what < 10 + m.choices) return box.byChoice[what - 10];
        return what == 20 ? box.votes : BAD;
    }

    public long many(int at) {
        Box box = boxAt(at);
        if (box == null) return BAD;
        return box.howMany() > MOST_NUMBERED ? BIG : box.howMany();
    }

    public int table(int at, long i, int cell) {
        Box box = boxAt(at);
        int place = placeIn(box, cell);
        if (place < 0) return BAD;
        if (box.howMany() > MOST_NUMBERED) return BIG;
        if (i < 0 || i >= box.howMany()) return BAD;
        tables.goTo(box, i);
        return tables.cells[place];
    }

    public int drawn(int at, long seed, int cell) {
        Box box = boxAt(at);
        int place = placeIn(box, cell);
        if (place < 0) return BAD;
        if (box.howMany() > MOST_NUMBERED) return BIG;
        long z = (seed * 6364136223846793005L + 1442695040888963407L) >>> 20;
        tables.goTo(box, z % box.howMany());
        return tables.cells[place];
    }

    public int may(int at, int shelf, int i) {
        Box box = boxAt(at);
        Shelf from = shelfAt(shelf);
        if (box == null || from == null) return BAD;
        if (from.isEmpty()) return NOTHING;
        if (from.sort != Shelf.INTS) return UNLIKE;
        if (!from.has(i, box.of.groups * box.of.choices)) return NO_PLACE;
        return box.firstWrongCell(from.elements, i);
    }

    public int open(int at, int shelf, int i) {
        int seenWrong = may(at, shelf, i);
        if (seenWrong >= 0) return NOT;
        if (seenWrong != NOT) return seenWrong;
        Box box = boxAt(at);
        Shelf from = shelfAt(shelf);
        if (box == null || from == null) return BAD;
        if (box.opened) return STATE;
        box.see(from.elements, i);
        return 1;
    }

    // ---- ends

    public int ends(int at, int cell, int what) {
        Box box = boxAt(at);
        int place = placeIn(box, cell);
        if (place < 0 || !isEnd(what)) return BAD;
        return what == 0 ? box.least(place) : box.most(place);
    }

    public int inAll(int matter, int cell, int what) {
        Matter m = matterAt(matter);
        int place = placeOf(m, cell);
        if (place < 0 || what < 0 || what > 3) return VOID;
        int end = m.endInAll(place, what % 2);
        if (what < 2) return end;
        int people = m.groupInAll(place / CHOICES);
        return people == 0 ? VOID : end * 1000 / people;
    }

    public int sure(int matter, int cell) {
        Matter m = matterAt(matter);
        int place = placeOf(m, cell);
        return place < 0 ? BAD : m.sureBoxes(place);
    }

    public int next(int matter, int cell) {
        Matter m = matterAt(matter);
        int place = placeOf(m, cell);
        if (place < 0) return BAD;
        int widest = m.widest(place, 0);
        return widest < 0 ? NOT : widest;
    }

    public int opens(int matter, int cell, int v) {
        Matter m = matterAt(matter);
        int place = placeOf(m, cell);
        if (place < 0 || v < 0 || v > 9999) return BAD;
        return m.openingsTill(place, v);
    }

    // ---- held things, claims

    public int hold(int matter, int sort, int cell, int boxes, int v) {
        Matter m = matterAt(matter);
        int place = placeOf(m, cell);
        if (place < 0 || sort < 0 || sort > 3 || boxes < 0 || v < 0 || v > 999) return BAD;
        Held held = new Held(sort, place, boxes, v);
        if (held.box >= m.boxCount) return BAD;
        if (held.isOfTwo() && (held.other >= m.boxCount || held.other == held.box)) return BAD;
        if (m.heldCount >= MOST_HELD) return FULL;
        m.held[m.heldCount] = held;
        return m.heldCount++;
    }

    public int by(int matter, int set, int cell, int what) {
        Matter m = matterAt(matter);
        int place = placeOf(m, cell);
        if (place < 0 || !m.hasTold(set) || !isEnd(what)) return BAD;
        if (m.isTooMany(set)) return BIG;
        known.goThrough(m, set, place);
        if (!known.some) return NOT;
        return what == 0 ? known.least : known.most;
    }

    public int none(int matter, int set) {
        Matter m = matterAt(matter);
        if (m == null || !m.hasTold(set)) return BAD;
        return known.leastNone(m, set);
    }

    public int claim(int matter, int set, int cell, int v) {
        Matter m = matterAt(matter);
        int place = placeOf(m, cell);
        if (place < 0 || !m.hasTold(set) || v < 0 || v > 9999) return BAD;
        if (m.isTooMany(set)) return BIG;
        known.goThrough(m, set, place);
        if (!known.some || known.least >= v) return 2;
        return known.most < v ? 0 : 1;
    }

    public int must(int matter, int set, int cell, int v) {
        Matter m = matterAt(matter);
        int place = placeOf(m, cell);
        if (place < 0 || !m.hasTold(set) || v < 0 || v > 9999) return BAD;
        return known.leastProof(m, set, place, v);
    }

    // ---- the line

    public int line(int matter, int x) {
        Matter m = matterAt(matter);
        if (m == null || x < 0 || x > 1000) return VOID;
        Line drawn = new Line(m);
        return drawn.stands() ? drawn.at(x) : VOID;
    }

    public int wrong(int matter, int i) {
        Matter m = matterAt(matter);
        if (m == null || i < -1) return BAD;
        Line drawn = new Line(m);
        if (!drawn.stands()) return NOT;
        int found = 0;
        for (int b = 0; b < m.boxCount; b++) {
            if (!m.box[b].isBeyondEnds(drawn.at(1000))) continue;
            if (found == i) return b;
            found++;
        }
        return i == -1 ? found : BAD;
    }

    // ---- two votes, years, parts

    public int second(int at, long sums) {
        Box box = boxAt(at);
        if (box == null || sums < 0) return BAD;
        return box.tellLater(sums) ? 1 : BAD;
    }

    public int split(int at, int kl, int what) {
        Box box = boxAt(at);
        if (box == null || kl < 0 || !isEnd(what)) return BAD;
        int k = kl / 10;
        int l = kl % 10;
        if (k >= box.of.choices || l >= box.of.choices) return BAD;
        if (!box.laterTold) return STATE;
        return endOf(box.byChoice[k], box.later[l], box.votes, what);
    }

    public int splits(int at, int what) {
        Box box = boxAt(at);
        if (box == null || !isEnd(what)) return BAD;
        if (!box.laterTold) return STATE;
        return what == 0 ? box.leastSplit() : box.mostSplit();
    }

    public int changed(int at, int last) {
        Box box = boxAt(at);
        if (box == null || last < 0 || last >= box.of.boxCount) return BAD;
        return box.leastChanged(box.of.box[last]);
    }

    public int parted(int at, int cell, int many, int pw) {
        Box box = boxAt(at);
        int place = placeIn(box, cell);
        if (place < 0 || pw < 0 || pw / 10 > 1 || !isEnd(pw % 10)) return BAD;
        int group = box.byGroup[place / CHOICES];
        if (many < 0 || many > group) return BAD;
        int part = pw / 10 == 0 ? many : group - many;
        return endOf(part, box.byChoice[place % CHOICES], box.votes, pw % 10);
    }

    // ---- weights

    public int weight(int matter, int cell, int v) {
        Matter m = matterAt(matter);
        int place = placeOf(m, cell);
        if (place < 0 || v < -99 || v > 99) return VOID;
        int was = m.weights[place];
        m.weights[place] = v;
        return was;
    }

    public int likeliest(int at, int cell) {
        Box box = boxAt(at);
        int place = placeIn(box, cell);
        if (place < 0) return BAD;
        if (box.howMany() > MOST_GONE_THROUGH) return BIG;
        likely.goThrough(box);
        return likely.cells[place];
    }

    public int weighs(int at, int what) {
        Box box = boxAt(at);
        if (box == null || !isEnd(what)) return VOID;
        if (box.howMany() > MOST_GONE_THROUGH) return BIG;
        likely.goThrough(box);
        if (what == 0) return likely.best;
        return likely.hasNext ? likely.best - likely.nextBest : NOT;
    }

    public int chance(int at, int cell, int v) {
        Box box = boxAt(at);
        int place = placeIn(box, cell);
        if (place < 0 || v < 0 || v > 999) return BAD;
        long all = box.howMany();
        if (all > MOST_GONE_THROUGH) return BIG;
        return (int) (tables.waysWith(box, place, v) * 1000 / all);
    }

    // ---- acts, shelves

    public int knowing(int kind) {
        if (kind < 0 || kind >= Knowing.KINDS) return BAD;
        if (knowingCount >= MOST_KNOWINGS) return FULL;
        knowings[knowingCount] = new Knowing(knowingCount, kind, ran);
        return knowingCount++;
    }

    public int act(int knowing, int act, int x) {
        ran.bodies = 0;
        Knowing doer = knowingAt(knowing);
        if (doer == null) return 0;
        switch (act) {
            case 0: return doer.lets(doer.kind, x);
            case 1: return doer.narrows(doer.kind, x);
            case 2: return doer.proves(doer.kind, x);
            case 3: return doer.tells(doer.kind, x);
            default: return 0;
        }
    }

    public int trace(int i) {
        return i < 0 || i >= ran.keptCount() ? BAD : ran.kept[i];
    }

    public int keep(int shelf, int knowing) {
        Shelf on = shelfAt(shelf);
        Knowing kept = knowingAt(knowing);
        if (on == null || (kept == null && knowing != -1)) return BAD;
        on.holdKnowing(kept);
        return 1;
    }

    public int row(int shelf, int sort, int n) {
        Shelf on = shelfAt(shelf);
        if (on == null || sort < 0 || sort > Shelf.BOOLEANS || n > Shelf.LONGEST) return BAD;
        if (n < 0) return NO_SIZE;
        on.holdRow(sort, n);
        return 1;
    }

    public int put(int shelf, int i, long v) {
        Shelf on = shelfAt(shelf);
        int refusal = refusalOf(on, i);
        if (refusal != 0) return refusal;
        on.elements[i] = on.cutToSort(v);
        return 1;
    }

    public long element(int shelf, int i) {
        Shelf on = shelfAt(shelf);
        return refusalOf(on, i) != 0 ? Long.MIN_VALUE : on.elements[i];
    }

    public int shift(int shelf, int i, int other, int j, int n) {
        Shelf from = shelfAt(shelf);
        Shelf to = shelfAt(other);
        if (from == null || to == null) return BAD;
        if (from.isEmpty() || to.isEmpty()) return NOTHING;
        if (!from.isRow() || from.sort != to.sort) return UNLIKE;
        if (!from.has(i, n) || !to.has(j, n)) return NO_PLACE;
        System.arraycopy(from.elements, i, to.elements, j, n);
        return n;
    }

    public int taken(int shelf, int k) {
        Shelf on = shelfAt(shelf);
        if (on == null || k < 0 || k >= Knowing.KINDS) return BAD;
        if (on.isEmpty()) return NOTHING;
        if (on.knowing == null || !on.knowing.isUnder(k)) return UNLIKE;
        return on.knowing.kind;
    }

    public int boxes(int matter, int shelf, int i, int n) {
        Matter m = matterAt(matter);
        Shelf from = shelfAt(shelf);
        if (m == null || from == null || n < 1 || n > MOST_BOXES) return BAD;
        if (from.isEmpty()) return 0;
        if (from.sort != Shelf.SHORTS) return UNLIKE;
        int size = m.groups + m.choices;
        int came = 0;
        while (came < n && from.has((long) i + came * size, size)) {
            for (int s = 0; s < size; s++) sums[s] = (int) from.elements[i + came * size + s];
            if (!m.addBox(sums, 0)) break;
            came++;
        }
        return came;
    }

    public int count(int what) {
        switch (what) {
            case 0: return matterCount;
            case 1: return tape.length;
            case 2: return allBoxes(false);
            case 3: return allBoxes(true);
            case 4: return knowingCount;
            case 5: return ran.bodies;
            default: return BAD;
        }
    }

    // ---- numbers from the caller

    private Matter matterAt(int number) {
        return number < 0 || number >= matterCount ? null : matters[number];
    }

    private Box boxAt(int at) {
        if (at < 0) return null;
        Matter m = matterAt(at / 100);
        return m == null || at % 100 >= m.boxCount ? null : m.box[at % 100];
    }

    private Knowing knowingAt(int number) {
        return number < 0 || number >= knowingCount ? null : knowings[number];
    }

    private Shelf shelfAt(int number) {
        return number < 0 || number >= SHELVES ? null : shelves[number];
    }

    /** The place of a cell, or -1 if there is no such matter or cell. */
    private static int placeOf(Matter m, int cell) {
        if (m == null || cell < 0 || cell / 10 >= m.groups || cell % 10 >= m.choices) return -1;
        return cell / 10 * CHOICES + cell % 10;
    }

    private static int placeIn(Box box, int cell) {
        return box == null ? -1 : placeOf(box.of, cell);
    }

    private static boolean isEnd(int what) {
        return what == 0 || what == 1;
    }

    /** The least (what 0) or the most (1) that r and k of n can have in common. */
    private static int endOf(int r, int k, int n, int what) {
        return what == 0 ? Math.max(0, r + k - n) : Math.min(r, k);
    }

    /** Why element i of a row can't be had, or 0 if it can. */
    private static int refusalOf(Shelf on, int i) {
        if (on == null) return BAD;
        if (on.isEmpty()) return NOTHING;
        if (!on.isRow()) return UNLIKE;
        return on.has(i, 1) ? 0 : NO_PLACE;
    }

    private int allBoxes(boolean openedAlone) {
        int all = 0;
        for (int m = 0; m < matterCount; m++) all += openedAlone ? matters[m].openedCount() : matters[m].boxCount;
        return all;
    }

    /** Bytes told so far, and what they say once they are read. */
    private static final class Tape {
        private static final int LONGEST = 200;

        final int[] bytes = new int[LONGEST];
        final int[] numbers = new int[MOST_BOXES * (GROUPS + CHOICES)];
        int length;
        int place;
        int groups;
        int choices;
        int boxCount;

        boolean take(int n, int v) {
            if (n > LONGEST - length) return false;
            for (int i = 0; i < n; i++) bytes[length++] = v >>> 8 * i & 255;
            return true;
        }

        /** Whether the whole tape reads as a matter; if not, place is its fault. */
        boolean isRead() {
            place = 0;
            boxCount = 0;
            if (!readHead()) return false;
            while (place < length) {
                if (boxCount >= MOST_BOXES || !readSign(';') || !readSums()) return false;
                boxCount++;
            }
            return true;
        }

        private boolean readHead() {
            if (!readSign('g') || !isDigit(2, GROUPS)) return false;
            groups = readDigit();
            if (!readSign('c') || !isDigit(2, CHOICES)) return false;
            choices = readDigit();
            return true;
        }

        private boolean readSums() {
            for (int i = 0; i < groups + choices; i++) {
                if (i > 0 && !readSign(i == groups ? '/' : ',')) return false;
                if (!isDigit(0, 9)) return false;
                int number = readDigit();
                if (isDigit(0, 9)) number = number * 10 + readDigit();
                numbers[boxCount * (groups + choices) + i] = number;
            }
            return true;
        }

        private boolean readSign(int sign) {
            if (place >= length || bytes[place] != sign) return false;
            place++;
            return true;
        }

        private boolean isDigit(int from, int to) {
            return place < length && bytes[place] >= '0' + from && bytes[place] <= '0' + to;
        }

        private int readDigit() {
            return bytes[place++] - '0';
        }

        /** The first box whose sums differ in all, or -1. */
        int firstUneven() {
            for (int b = 0; b < boxCount; b++) {
                if (!isEven(numbers, b * (groups + choices), groups, choices)) return b;
            }
            return -1;
        }

        Matter newMatter() {
            Matter made = new Matter(groups, choices);
            for (int b = 0; b < boxCount; b++) made.addBox(numbers, b * (groups + choices));
            return made;
        }

        static boolean isEven(int[] numbers, int from, int groups, int choices) {
            int left = 0;
            for (int g = 0; g < groups; g++) left += numbers[from + g];
            for (int k = 0; k < choices; k++) left -= numbers[from + groups + k];
            return left == 0;
        }
    }

    /** Boxes of like groups and choices, with what is held of them. */
    private static final class Matter {
        final int groups;
        final int choices;
        final Box[] box = new Box[MOST_BOXES];
        final Held[] held = new Held[MOST_HELD];
        final int[] weights = new int[PLACES];
        int boxCount;
        int heldCount;

        Matter(int groups, int choices) {
            this.groups = groups;
            this.choices = choices;
        }

        /** Whether the sums from a place on came as one more box. */
        boolean addBox(int[] sums, int from) {
            if (boxCount >= MOST_BOXES) return false;
            for (int s = 0; s < groups + choices; s++) {
                if (sums[from + s] < 0 || sums[from + s] > 99) return false;
            }
            if (!Tape.isEven(sums, from, groups, choices)) return false;
            box[boxCount++] = new Box(this, sums, from);
            return true;
        }

        int openedCount() {
            int all = 0;
            for (int b = 0; b < boxCount; b++) all += box[b].opened ? 1 : 0;
            return all;
        }

        int endInAll(int place, int what) {
            int all = 0;
            for (int b = 0; b < boxCount; b++) all += what == 0 ? box[b].least(place) : box[b].most(place);
            return all;
        }

        int groupInAll(int group) {
            int all = 0;
            for (int b = 0; b < boxCount; b++) all += box[b].byGroup[group];
            return all;
        }

        int sureBoxes(int place) {
            int bits = 0;
            for (int b = 0; b < boxCount; b++) {
                if (box[b].wide(place) == 0) bits |= 1 << b;
            }
            return bits;
        }

        /** The widest box that is not among those of the bits, or -1 if none is wide: opened ones never are. */
        int widest(int place, int bits) {
            int widest = -1;
            int most = 0;
            for (int b = 0; b < boxCount; b++) {
                if ((bits >> b & 1) != 0 || box[b].wide(place) <= most) continue;
                widest = b;
                most = box[b].wide(place);
            }
            return widest;
        }

        int openingsTill(int place, int v) {
            int wide = endInAll(place, 1) - endInAll(place, 0);
            int bits = 0;
            for (int openings = 0; openings < boxCount; openings++) {
                int b = widest(place, bits);
                if (wide <= v || b < 0) return openings;
                wide -= box[b].wide(place);
                bits |= 1 << b;
            }
            return boxCount;
        }

        boolean hasTold(int set) {
            return set >= 0 && set < 1 << heldCount;
        }

        /** The boxes that the held things of a set name, as bits. */
        int named(int set) {
            int bits = 0;
            for (int h = 0; h < heldCount; h++) {
                if ((set >> h & 1) != 0) bits |= held[h].boxBits();
            }
            return bits;
        }

        /** Whether a set names boxes with more rows of tables than are gone through. */
        boolean isTooMany(int set) {
            int bits = named(set);
            long rows = 1;
            for (int b = 0; b < boxCount; b++) {
                if ((bits >> b & 1) == 0 || box[b].opened) continue;
                if (box[b].howMany() > MOST_GONE_THROUGH) return true;
                rows *= box[b].howMany();
                if (rows > MOST_GONE_THROUGH) return true;
            }
            return false;
        }
    }

    /** A street: its sums, its second vote if told, and its table if opened. */
    private static final class Box {
        final Matter of;
        final int[] byGroup = new int[GROUPS];
        final int[] byChoice = new int[CHOICES];
        final int[] later = new int[CHOICES];
        final int[] seen = new int[PLACES];
        final int votes;
        boolean laterTold;
        boolean opened;
        private long ways;

        Box(Matter of, int[] sums, int from) {
            this.of = of;
            int all = 0;
            for (int g = 0; g < of.groups; g++) {
                byGroup[g] = sums[from + g];
                all += byGroup[g];
            }
            for (int k = 0; k < of.choices; k++) byChoice[k] = sums[from + of.groups + k];
            votes = all;
        }

        /** Counted when first asked for: a box always has a table, so that 0 means not counted yet. */
        long howMany() {
            if (ways < 1) ways = Math.max(1, Tables.ways(byGroup, byChoice));
            return ways;
        }

        int least(int place) {
            return opened ? seen[place] : endOf(byGroup[place / CHOICES], byChoice[place % CHOICES], votes, 0);
        }

        int most(int place) {
            return opened ? seen[place] : endOf(byGroup[place / CHOICES], byChoice[place % CHOICES], votes, 1);
        }

        int wide(int place) {
            return most(place) - least(place);
        }

        /** The first cell at which it is seen that the elements are no table of the box, or NOT. */
        int firstWrongCell(long[] elements, int from) {
            for (int g = 0; g < of.groups; g++) {
                for (int k = 0; k < of.choices; k++) {
                    boolean wrong = elements[from + g * of.choices + k] < 0;
                    if (k == of.choices - 1) wrong |= rowSum(elements, from, g) != byGroup[g];
                    if (g == of.groups - 1) wrong |= columnSum(elements, from, k) != byChoice[k];
                    if (wrong) return 10 * g + k;
                }
            }
            return NOT;
        }

        private long rowSum(long[] elements, int from, int g) {
            long all = 0;
            for (int k = 0; k < of.choices; k++) all += elements[from + g * of.choices + k];
            return all;
        }

        private long columnSum(long[] elements, int from, int k) {
            long all = 0;
            for (int g = 0; g < of.groups; g++) all += elements[from + g * of.choices + k];
            return all;
        }

        void see(long[] elements, int from) {
            for (int g = 0; g < of.groups; g++) {
                for (int k = 0; k < of.choices; k++) {
                    seen[g * CHOICES + k] = (int) elements[from + g * of.choices + k];
                }
            }
            opened = true;
        }

        /** Whether what the line says of group 0 lies outside what choice 0 can have of it. */
        boolean isBeyondEnds(int says) {
            int group = byGroup[0];
            if (group < 1) return false;
            int least = least(0) * 1000 / group;
            int most = (most(0) * 1000 + group - 1) / group;
            return says < least || says > most;
        }

        /** Whether sums as digits base 1000 are a second vote of as many: a highest digit above 999 never is. */
        boolean tellLater(long sums) {
            long rest = sums;
            long all = 0;
            for (int k = of.choices - 1; k > 0; k--) {
                all += rest % 1000;
                rest /= 1000;
            }
            if (all + rest != votes) return false;
            rest = sums;
            for (int k = of.choices - 1; k >= 0; k--) {
                later[k] = (int) (rest % 1000);
                rest /= 1000;
            }
            laterTold = true;
            return true;
        }

        int leastSplit() {
            int alike = 0;
            for (int k = 0; k < CHOICES; k++) alike += Math.min(byChoice[k], later[k]);
            return votes - alike;
        }

        int mostSplit() {
            int alike = 0;
            for (int k = 0; k < CHOICES; k++) alike = Math.max(alike, byChoice[k] + later[k] - votes);
            return votes - alike;
        }

        int leastChanged(Box last) {
            int both = Math.min(votes, last.votes);
            int alike = 0;
            for (int k = 0; k < CHOICES; k++) alike += Math.min(cutSum(k, both), last.cutSum(k, both));
            return both - alike;
        }

        /** What choice k keeps when all but so many votes are taken off, the last choice first. */
        private int cutSum(int k, int kept) {
            int ahead = 0;
            for (int l = 0; l < k; l++) ahead += byChoice[l];
            return Math.max(0, Math.min(byChoice[k], kept - ahead));
        }
    }

    /** Something held of a cell in a box, or in two boxes. */
    private static final class Held {
        final int sort;
        final int place;
        final int box;
        final int other;
        final int v;

        Held(int sort, int place, int boxes, int v) {
            this.sort = sort;
            this.place = place;
            this.box = boxes / 100;
            this.other = boxes % 100;
            this.v = v;
        }

        boolean isOfTwo() {
            return sort > 1;
        }

        int boxBits() {
            return isOfTwo() ? 1 << box | 1 << other : 1 << box;
        }
    }

    /** The tables of a box, gone through in order or one by its number. */
    private static final class Tables {
        final int[] cells = new int[PLACES];
        private final int[] groupLeft = new int[GROUPS];
        private final int[] choiceLeft = new int[CHOICES];
        private int places;

        /** Places behind the last cell of the matter stay 0 and are not gone through. */
        private void empty(Box box) {
            System.arraycopy(box.byGroup, 0, groupLeft, 0, GROUPS);
            System.arraycopy(box.byChoice, 0, choiceLeft, 0, CHOICES);
            places = (box.of.groups - 1) * CHOICES + box.of.choices;
            for (int p = places; p < PLACES; p++) cells[p] = 0;
        }

        void start(Box box) {
            empty(box);
            fillFrom(0);
        }

        /** Whether there was a next table to go to. */
        boolean advance() {
            for (int p = places - 1; p >= 0; p--) {
                int v = cells[p] + 1;
                set(p, -cells[p]);
                if (v > room(p)) continue;
                set(p, v);
                cells[p] = v;
                fillFrom(p + 1);
                return true;
            }
            return false;
        }

        /** Each cell gets the least with which the later choices can still take the rest of its group. */
        private void fillFrom(int place) {
            for (int p = place; p < places; p++) {
                int least = groupLeft[p / CHOICES];
                for (int l = p % CHOICES + 1; l < CHOICES; l++) least -= choiceLeft[l];
                cells[p] = Math.max(0, least);
                set(p, cells[p]);
            }
        }

        private int room(int p) {
            return Math.min(groupLeft[p / CHOICES], choiceLeft[p % CHOICES]);
        }

        private void set(int p, int v) {
            groupLeft[p / CHOICES] -= v;
            choiceLeft[p % CHOICES] -= v;
        }

        void goTo(Box box, long i) {
            empty(box);
            long left = i;
            for (int p = 0; p < places; p++) {
                int v = p % CHOICES == CHOICES - 1 ? groupLeft[p / CHOICES] : valueAt(p, left);
                if (p % CHOICES < CHOICES - 1 && v > 0) left -= waysFrom(p, 0) - waysFrom(p, v);
                cells[p] = v;
                set(p, v);
            }
        }

        /** The number in a cell of the i-th table of those alike ahead of it: by halving, not one by one. */
        private int valueAt(int p, long i) {
            int low = 0;
            int high = room(p);
            if (high == 0) return 0;
            long all = waysFrom(p, 0);
            while (low < high) {
                int middle = (low + high + 1) / 2;
                if (all - waysFrom(p, middle) <= i) low = middle;
                else high = middle - 1;
            }
            return low;
        }

        /** How many tables go on with v or more in a cell; those with more in the choice ahead go off. */
        private long waysFrom(int p, int v) {
            set(p, v);
            long all = ways(groupLeft, choiceLeft);
            if (p % CHOICES == 1) {
                set(p - 1, 1);
                all -= ways(groupLeft, choiceLeft);
                set(p - 1, -1);
            }
            set(p, -v);
            return all;
        }

        /** Tables with v or more in a cell are as many as those of the box with v less in its group and choice. */
        long waysWith(Box box, int place, int v) {
            empty(box);
            set(place, v);
            return ways(groupLeft, choiceLeft);
        }

        /** How many tables keep the sums: over all ways to part the choices between the upper and lower groups. */
        static long ways(int[] groups, int[] choices) {
            for (int g = 0; g < GROUPS; g++) {
                if (groups[g] < 0) return 0;
            }
            for (int k = 0; k < CHOICES; k++) {
                if (choices[k] < 0) return 0;
            }
            int upper = groups[0] + groups[1];
            long all = 0;
            for (int i = Math.min(upper, choices[0]); i >= 0; i--) {
                for (int j = Math.min(upper - i, choices[1]); j >= 0; j--) {
                    int k = upper - i - j;
                    if (k > choices[2]) break;
                    long below = oneOfTwo(groups[2], choices[0] - i, choices[1] - j, choices[2] - k);
                    all += below == 0 ? 0 : below * oneOfTwo(groups[0], i, j, k);
                }
            }
            return all;
        }

        /** In how many ways r, at most all, are taken from a, b and c; what they leave is the other group. */
        private static long oneOfTwo(int r, int a, int b, int c) {
            long all = threes(r) - threes(r - a - 1) - threes(r - b - 1) - threes(r - c - 1);
            return all + threes(r - a - b - 2) + threes(r - a - c - 2) + threes(r - b - c - 2);
        }

        /** In how many ways r is the sum of three numbers. */
        private static long threes(long r) {
            return r < 0 ? 0 : (r + 1) * (r + 2) / 2;
        }
    }

    /** Goes through the rows of tables that keep a set of held things. */
    private static final class Known {
        private static final int SETS = 1 << MOST_HELD;

        boolean some;
        int least;
        int most;
        private final Tables[] going = new Tables[MOST_BOXES];
        private final Box[] boxAt = new Box[MOST_BOXES];
        private final int[] levelOf = new int[MOST_BOXES];
        private final int[] leastFrom = new int[MOST_BOXES + 1];
        private final int[] mostFrom = new int[MOST_BOXES + 1];
        private final int[] due = new int[MOST_BOXES + 1];
        private final int[] letsNone = new int[SETS];
        private Matter matter;
        private int place;
        private int levels;
        private int below;
        private int above;
        private boolean bothEnds;

        Known() {
            for (int l = 0; l < MOST_BOXES; l++) going[l] = new Tables();
        }

        /** The least and the most of a cell in all, and whether there is a row at all. */
        void goThrough(Matter m, int set, int cellPlace) {
            bothEnds = true;
            prepare(m, set, cellPlace);
            walk(0, 0);
        }

        /** As above, but it stops at the first row below v: by it the least is below v, too. */
        private void goTillBelow(Matter m, int set, int cellPlace, int v) {
            bothEnds = false;
            below = v;
            above = Integer.MAX_VALUE;
            prepare(m, set, cellPlace);
            walk(0, 0);
        }

        private void prepare(Matter m, int set, int cellPlace) {
            matter = m;
            place = cellPlace;
            some = false;
            setLevels(set);
            setDue(set);
        }

        /** Boxes that are named and not opened are gone through, a level each; the others stand by their ends. */
        private void setLevels(int set) {
            int named = matter.named(set);
            levels = 0;
            int leastRest = 0;
            int mostRest = 0;
            for (int b = 0; b < matter.boxCount; b++) {
                Box box = matter.box[b];
                boolean goes = (named >> b & 1) != 0 && !box.opened;
                levelOf[b] = goes ? levels : -1;
                if (goes) {
                    boxAt[levels++] = box;
                } else {
                    leastRest += box.least(place);
                    mostRest += box.most(place);
                }
            }
            leastFrom[levels] = leastRest;
            mostFrom[levels] = mostRest;
            for (int l = levels - 1; l >= 0; l--) {
                leastFrom[l] = leastFrom[l + 1] + boxAt[l].least(place);
                mostFrom[l] = mostFrom[l + 1] + boxAt[l].most(place);
            }
        }

        /** A held thing is looked at as soon as the last of its boxes has its table. */
        private void setDue(int set) {
            for (int l = 0; l <= levels; l++) due[l] = 0;
            for (int h = 0; h < matter.heldCount; h++) {
                if ((set >> h & 1) == 0) continue;
                Held held = matter.held[h];
                int level = levelOf[held.box];
                if (held.isOfTwo()) level = Math.max(level, levelOf[held.other]);
                due[level + 1] |= 1 << h;
            }
        }

        private void walk(int level, int sum) {
            if (!allKept(level)) return;
            if (level >= levels) {
                note(sum + leastFrom[levels], sum + mostFrom[levels]);
                return;
            }
            Tables tables = going[level];
            tables.start(boxAt[level]);
            boolean more = true;
            for (int t = 0; t < MOST_GONE_THROUGH && more && canTell(level, sum); t++) {
                walk(level + 1, sum + tables.cells[place]);
                more = tables.advance();
            }
        }

        private void note(int low, int high) {
            least = some ? Math.min(least, low) : low;
            most = some ? Math.max(most, high) : high;
            some = true;
            if (bothEnds) {
                below = least;
                above = most;
            } else if (low < below) {
                below = Integer.MIN_VALUE;
            }
        }

        /** Whether rows that go on from here can still tell something new. */
        private boolean canTell(int level, int sum) {
            return !some || sum + leastFrom[level] < below || sum + mostFrom[level] > above;
        }

        private boolean allKept(int level) {
            for (int bits = due[level]; bits != 0; bits &= bits - 1) {
                if (!isKept(matter.held[Integer.numberOfTrailingZeros(bits)])) return false;
            }
            return true;
        }

        private boolean isKept(Held held) {
            int here = inBox(held.box, held.place);
            int there = held.isOfTwo() ? inBox(held.other, held.place) : 0;
            switch (held.sort) {
                case 0: return here <= held.v;
                case 1: return here >= held.v;
                case 2: return Math.abs(here - there) <= held.v;
                default: return here <= there + held.v;
            }
        }

        private int inBox(int b, int cellPlace) {
            return levelOf[b] < 0 ? matter.box[b].seen[cellPlace] : going[levelOf[b]].cells[cellPlace];
        }

        /** The fewest, then the least, of the set that let no row; NOT, or BIG as soon as one looked at is too big. */
        int leastNone(Matter m, int set) {
            if (!m.isTooMany(set)) {
                goTillBelow(m, set, 0, Integer.MAX_VALUE);
                if (some) return NOT;
            }
            for (int size = 0; size <= MOST_HELD; size++) {
                for (int s = 0; s <= set; s++) {
                    if ((s & ~set) != 0 || Integer.bitCount(s) != size) continue;
                    if (m.isTooMany(s)) return BIG;
                    goTillBelow(m, s, 0, Integer.MAX_VALUE);
                    if (!some) return s;
                }
            }
            return NOT;
        }

        /** The fewest, then the least, of the set by which a cell is v or more in all, and not by letting no row. */
        int leastProof(Matter m, int set, int cellPlace, int v) {
            if (!m.isTooMany(set)) {
                goTillBelow(m, set, cellPlace, v);
                if (some && least < v) return NOT;
            }
            for (int size = 0; size <= MOST_HELD; size++) {
                for (int s = 0; s <= set; s++) {
                    if ((s & ~set) != 0 || Integer.bitCount(s) != size) continue;
                    if (m.isTooMany(s)) return BIG;
                    letsNone[s] = letsNoneByLess(s) ? 1 : 0;
                    if (letsNone[s] != 0) continue;
                    goTillBelow(m, s, cellPlace, v);
                    letsNone[s] = some ? 0 : 1;
                    if (some && least >= v) return s;
                }
            }
            return NOT;
        }

        /** What lets no row lets none with one thing more, either: sets with one thing less were looked at ahead. */
        private boolean letsNoneByLess(int set) {
            for (int bits = set; bits != 0; bits &= bits - 1) {
                if (letsNone[set & ~(bits & -bits)] != 0) return true;
            }
            return false;
        }
    }

    /** The line through the dots of a matter. */
    private static final class Line {
        private long dots;
        private long sumX;
        private long sumY;
        private long sumXX;
        private long sumXY;

        Line(Matter m) {
            for (int b = 0; b < m.boxCount; b++) {
                Box box = m.box[b];
                if (box.votes < 1) continue;
                long x = box.byGroup[0] * 1000 / box.votes;
                long y = box.byChoice[0] * 1000 / box.votes;
                dots++;
                sumX += x;
                sumY += y;
                sumXX += x * x;
                sumXY += x * y;
            }
        }

        private long spread() {
            return dots * sumXX - sumX * sumX;
        }

        boolean stands() {
            return spread() != 0;
        }

        /** What it says at x, for a line that stands. */
        int at(int x) {
            long a = dots * sumXY - sumX * sumY;
            long b = spread();
            if (b * dots == 0) return VOID;
            return (int) Math.floorDiv(b * sumY + a * (x * dots - sumX), b * dots);
        }
    }

    /** The likeliest table of a box by the weights of its matter. */
    private static final class Likely {
        final int[] cells = new int[PLACES];
        int best;
        int nextBest;
        boolean hasNext;
        private final Tables tables = new Tables();

        void goThrough(Box box) {
            hasNext = false;
            tables.start(box);
            best = weightOf(box.of.weights);
            keepCells();
            for (int t = 1; t < MOST_GONE_THROUGH && tables.advance(); t++) look(weightOf(box.of.weights));
        }

        private void look(int weight) {
            if (weight == best) return;
            int lesser = Math.min(weight, best);
            if (!hasNext || lesser > nextBest) nextBest = lesser;
            hasNext = true;
            if (weight < best) return;
            best = weight;
            keepCells();
        }

        private void keepCells() {
            System.arraycopy(tables.cells, 0, cells, 0, PLACES);
        }

        private int weightOf(int[] weights) {
            int all = 0;
            for (int p = 0; p < PLACES; p++) all += weights[p] * tables.cells[p];
            return all;
        }
    }

    /**
     * One that acts by the bodies of its kind. Each act is told from which kind on a body is looked for: its own, or
     * the kind above that of the body which calls it. Acts call only themselves from a kind further above, or acts
     * ahead of them (tells: proves and narrows; proves: narrows; narrows: lets), so that they end.
     */
    private static final class Knowing {
        static final int KINDS = 7;
        private static final int HELD = 2, ENDS = 1, LIKE = 3, NESTED = 4, TWICE = 5, TOLD = 6;
        private static final int[] ABOVE = {-1, 0, 1, 2, 1, 1, 0};

        final int number;
        final int kind;
        private final Trace ran;

        Knowing(int number, int kind, Trace ran) {
            this.number = number;
            this.kind = kind;
            this.ran = ran;
        }

        boolean isUnder(int k) {
            return isUnder(kind, k);
        }

        private static boolean isUnder(int from, int k) {
            for (int above = from; above >= 0; above = ABOVE[above]) {
                if (above == k) return true;
            }
            return false;
        }

        private int lets(int from, int x) {
            if (from == TWICE) {
                ran.begin(60);
                return lets(ENDS, x + 1) * 2;
            }
            if (isUnder(from, ENDS)) {
                ran.begin(20);
                return lets(ABOVE[ENDS], x) - 1;
            }
            ran.begin(1);
            return x + number;
        }

        private int narrows(int from, int x) {
            if (from == NESTED) {
                ran.begin(50);
                return -narrows(ENDS, x);
            }
            if (isUnder(from, HELD)) {
                ran.begin(31);
                return narrows(ENDS, x) + lets(kind, 2);
            }
            ran.begin(10);
            return lets(kind, x) * 2;
        }

        private int proves(int from, int x) {
            if (from == TOLD) {
                ran.begin(70);
                return proves(ABOVE[TOLD], x) - narrows(kind, 1);
            }
            if (isUnder(from, HELD)) {
                ran.begin(30);
                return proves(ENDS, x) * 3;
            }
            ran.begin(11);
            return x ^ number;
        }

        private int tells(int from, int x) {
            if (from == TOLD) {
                ran.begin(71);
                return tells(ABOVE[TOLD], x) * 2;
            }
            if (from == LIKE) {
                ran.begin(40);
                return tells(HELD, x) ^ 5;
            }
            ran.begin(2);
            return narrows(kind, x) - proves(kind, 1);
        }
    }

    /** The bodies that ran in the latest act. */
    private static final class Trace {
        private static final int LONGEST = 24;

        final int[] kept = new int[LONGEST];
        int bodies;

        void begin(int body) {
            if (bodies < LONGEST) kept[bodies] = body;
            bodies++;
        }

        int keptCount() {
            return Math.min(bodies, LONGEST);
        }
    }

    /** Holds nothing, a knowing, or a row. */
    private static final class Shelf {
        static final int BYTES = 0, SHORTS = 1, INTS = 2, BOOLEANS = 4, LONGEST = 60;

        final long[] elements = new long[LONGEST];
        Knowing knowing;
        int sort = -1;
        private int length;

        boolean isEmpty() {
            return knowing == null && sort < 0;
        }

        boolean isRow() {
            return sort >= 0;
        }

        void holdKnowing(Knowing held) {
            knowing = held;
            sort = -1;
            length = 0;
        }

        void holdRow(int rowSort, int n) {
            knowing = null;
            sort = rowSort;
            length = n;
            for (int i = 0; i < LONGEST; i++) elements[i] = 0;
        }

        /** Whether n elements stand from place i on. */
        boolean has(long i, int n) {
            return i >= 0 && n >= 0 && i + n <= length;
        }

        long cutToSort(long v) {
            switch (sort) {
                case BYTES: return (byte) v;
                case SHORTS: return (short) v;
                case INTS: return (int) v;
                case BOOLEANS: return v != 0 ? 1 : 0;
                default: return v;
            }
        }
    }
}
