/**
 * Marks over and under the notes of a staff, stacked outward so that no two of them meet.
 *
 * <p>Heights count outward from the staff's middle line on both sides, so that above and below are
 * worked out by the same code.
 */
public final class StackMarks {
    public static final int BAD = -100001, FULL = -100002, NONE = -100003;

    private static final int MOST_ITEMS = 40, MOST_MARKS = 80, MOST_SLURS = 10;
    private static final int MOST_X = 100000, MOST_SKYLINE_X = 101000, MOST_HEAD = 60;
    private static final int MOST_WIDTH = 400, MOST_HEIGHT = 40, MOST_THICKNESS = 20;
    private static final int ABOVE = 1, BELOW = -1;

    private static final int STAFF_HEIGHT = 18;
    private static final int NOTE_REACH = 6, NOTE_BEYOND = 4;
    private static final int STEM_REACH = 1, STEM_BEYOND = 28;
    private static final int REST_REACH = 5, REST_BEYOND = 8;
    private static final int SLUR_ROOM = 3, PAD = 1, PUSH_ROOM = 4;

    private final Items items;
    private final Kinds kinds;
    private final Marks marks;
    private final Slurs slurs;
    private final Outline above;
    private final Outline below;
    /** The marks that are there, in the order in which they get their turns. */
    private final int[] queue;
    private int queued;
    private int turns;
    private boolean placed;

    public StackMarks() {
        items = new Items();
        kinds = new Kinds();
        marks = new Marks();
        slurs = new Slurs();
        above = new Outline();
        below = new Outline();
        queue = new int[MOST_MARKS];
    }

    public int note(int x, int low, int high, int voice, int stem) {
        if (!isHead(low) || !isHead(high) || low > high || !isWithin(stem, -1, 1)) {
            return BAD;
        }
        return addItem(x, low, high, voice, stem, 0);
    }

    public int rest(int x, int y, int voice) {
        if (!isHead(y)) {
            return BAD;
        }
        return addItem(x, y, y, voice, 0, 1);
    }

    public int lift(int item, int by) {
        // Tested against the whole span of heads first, so that the sums below cannot wrap around.
        if (!items.has(item) || !isWithin(by, -2 * MOST_HEAD, 2 * MOST_HEAD)) {
            return BAD;
        }
        if (!isHead(items.low[item] + by) || !isHead(items.high[item] + by)) {
            return BAD;
        }
        items.low[item] += by;
        items.high[item] += by;
        placed = false;
        return 1;
    }

    public int set(int kind, int what, int v) {
        if (!kinds.has(kind) || !kinds.takes(what, v)) {
            return BAD;
        }
        placed = false;
        return kinds.change(kind, what, v);
    }

    public int mark(int item, int kind, int width, int height) {
        if (!items.has(item) || !kinds.has(kind)) {
            return BAD;
        }
        if (!isWithin(width, 1, MOST_WIDTH) || !isWithin(height, 1, MOST_HEIGHT)) {
            return BAD;
        }
        if (marks.count >= MOST_MARKS) {
            return FULL;
        }
        placed = false;
        return marks.add(item, kind, width, height);
    }

    public int drop(int mark) {
        if (!marks.has(mark)) {
            return BAD;
        }
        marks.gone[mark] = true;
        placed = false;
        return 1;
    }

    public int slur(int from, int to, int side, int thickness) {
        if (!items.has(from) || !items.has(to) || items.x[to] <= items.x[from]) {
            return BAD;
        }
        if (!isSide(side) || !isWithin(thickness, 1, MOST_THICKNESS)) {
            return BAD;
        }
        if (slurs.count >= MOST_SLURS) {
            return FULL;
        }
        placed = false;
        return slurs.add(from, to, side, thickness);
    }

    public int place() {
        above.clear();
        below.clear();
        coverItems();
        laySlurs();
        queueMarks();
        int late = layMarks();
        placed = true;
        return late;
    }

    public int at(int mark, int what) throws IllegalStateException {
        if (!marks.has(mark) || !isWithin(what, 0, 6)) {
            return BAD;
        }
        demandPlaces();
        switch (what) {
            case 0: return marks.left[mark];
            case 1: return marks.behind(mark);
            case 2: return marks.side[mark];
            case 3: return marks.inner[mark];
            case 4: return marks.outer[mark];
            case 5: return marks.inRow[mark] ? 1 : 0;
            default: return marks.turn[mark];
        }
    }

    public int slurAt(int slur, int what) throws IllegalStateException {
        if (!slurs.has(slur) || !isWithin(what, 0, 1)) {
            return BAD;
        }
        demandPlaces();
        return what == 0 ? slurs.inner[slur] : slurs.outer[slur];
    }

    public int skyline(int x, int side) throws IllegalStateException {
        if (!isWithin(x, 0, MOST_SKYLINE_X) || !isSide(side)) {
            return BAD;
        }
        demandPlaces();
        return outline(side).greatest(x, x);
    }

    public int row(int kind, int side) throws IllegalStateException {
        if (!kinds.has(kind) || !isSide(side)) {
            return BAD;
        }
        demandPlaces();
        return outline(side).rowInner[kind];
    }

    public int order(int item, int side, int k) throws IllegalStateException {
        if (!items.has(item) || !isSide(side)) {
            return BAD;
        }
        demandPlaces();
        for (int mark = 0; mark < marks.count; mark++) {
            if (marks.isOn(mark, item, side) && marks.countNearer(mark) == k) {
                return mark;
            }
        }
        return NONE;
    }

    public int meets(int a, int b) throws IllegalStateException {
        if (!marks.has(a) || !marks.has(b) || a == b) {
            return BAD;
        }
        demandPlaces();
        boolean sameHeight = marks.inner[a] < marks.outer[b] && marks.inner[b] < marks.outer[a];
        return marks.side[a] == marks.side[b] && marks.shareX(a, b) && sameHeight ? 1 : 0;
    }

    public int wide(int mark) {
        return marks.has(mark) ? lackOf(mark) : BAD;
    }

    public int push(int mark) {
        if (!marks.has(mark)) {
            return BAD;
        }
        int by = lackOf(mark);
        if (by == 0) {
            return 0;
        }
        if (items.greatestX() + by > MOST_X) {
            return FULL;
        }
        items.moveBehind(items.x[marks.item[mark]], by);
        placed = false;
        return by;
    }

    public int item(int item, int what) {
        if (!items.has(item)) {
            return BAD;
        }
        switch (what) {
            case 0: return items.x[item];
            case 1: return items.low[item];
            case 2: return items.high[item];
            case 3: return items.voice[item];
            case 4: return items.stem[item];
            case 5: return items.rest[item];
            case 6: return marks.countAt(item);
            default: return BAD;
        }
    }

    public int count(int what) throws IllegalStateException {
        switch (what) {
            case 0: return items.count;
            case 1: return marks.countThere();
            case 2: return slurs.count;
            case 3: return placed ? 1 : 0;
            case 4: return outermost(ABOVE);
            case 5: return outermost(BELOW);
            default: return BAD;
        }
    }

    private static boolean isWithin(int number, int least, int most) {
        return number >= least && number <= most;
    }

    private static boolean isHead(int y) {
        return isWithin(y, -MOST_HEAD, MOST_HEAD);
    }

    private static boolean isSide(int side) {
        return side == ABOVE || side == BELOW;
    }

    private void demandPlaces() {
        if (!placed) {
            throw new IllegalStateException("place() has not been called since the last change");
        }
    }

    private int addItem(int x, int low, int high, int voice, int stem, int rest) {
        if (!isWithin(x, 0, MOST_X) || !isWithin(voice, 0, 1) || items.isAt(x)) {
            return BAD;
        }
        if (items.count >= MOST_ITEMS) {
            return FULL;
        }
        placed = false;
        return items.add(x, low, high, voice, stem, rest);
    }

    private Outline outline(int side) {
        return side == ABOVE ? above : below;
    }

    private int outermost(int side) {
        demandPlaces();
        return outline(side).outermost;
    }

    /** By how much a mark is too wide; 0 if it is not. */
    private int lackOf(int mark) {
        int item = marks.item[mark];
        int next = items.next(item);
        if (!kinds.liesFromX(marks.kind[mark]) || next < 0) {
            return 0;
        }
        return Math.max(0, items.x[item] + marks.width[mark] + PUSH_ROOM - items.x[next]);
    }

    private void coverItems() {
        for (int item = 0; item < items.count; item++) {
            if (items.rest[item] == 1) {
                coverHeads(item, REST_REACH, REST_BEYOND);
            } else {
                coverHeads(item, NOTE_REACH, NOTE_BEYOND);
                coverStem(item);
            }
        }
    }

    private void coverHeads(int item, int reach, int beyond) {
        int x = items.x[item];
        above.cover(x - reach, x + reach, items.high[item] + beyond);
        below.cover(x - reach, x + reach, beyond - items.low[item]);
    }

    private void coverStem(int item) {
        int x = items.x[item];
        if (items.stem[item] == ABOVE) {
            above.cover(x - STEM_REACH, x + STEM_REACH, items.high[item] + STEM_BEYOND);
        } else if (items.stem[item] == BELOW) {
            below.cover(x - STEM_REACH, x + STEM_REACH, STEM_BEYOND - items.low[item]);
        }
    }

    private void laySlurs() {
        for (int slur = 0; slur < slurs.count; slur++) {
            Outline outline = outline(slurs.side[slur]);
            int first = items.x[slurs.from[slur]];
            int last = items.x[slurs.to[slur]];
            int inner = outline.greatest(first, last) + SLUR_ROOM;
            int outer = inner + slurs.thickness[slur];
            slurs.inner[slur] = inner;
            slurs.outer[slur] = outer;
            outline.cover(first, last, outer + SLUR_ROOM);
            outline.reachOut(outer);
        }
    }

    private void queueMarks() {
        boolean byVoice = items.haveBothVoices();
        queued = 0;
        for (int mark = 0; mark < marks.count; mark++) {
            if (!marks.gone[mark]) {
                marks.left[mark] = leftEdge(mark);
                marks.side[mark] = chooseSide(mark, byVoice);
                marks.inRow[mark] = false;
                marks.turn[mark] = -1;
                queueMark(mark);
            }
        }
    }

    /** Marks come here by rising number, so that those of equal rank stay in that order. */
    private void queueMark(int mark) {
        int spot = queued;
        while (spot > 0 && rank(mark) < rank(queue[spot - 1])) {
            queue[spot] = queue[spot - 1];
            spot--;
        }
        queue[spot] = mark;
        queued++;
    }

    private int rank(int mark) {
        return kinds.rank(marks.kind[mark]) * (MOST_X + 1) + items.x[marks.item[mark]];
    }

    private int leftEdge(int mark) {
        int x = items.x[marks.item[mark]];
        return kinds.liesFromX(marks.kind[mark]) ? x : x - marks.width[mark] / 2;
    }

    private int chooseSide(int mark, boolean byVoice) {
        int item = marks.item[mark];
        int voiceSide = items.voice[item] == 0 ? ABOVE : BELOW;
        int stemSide = byVoice || items.stem[item] == 0 ? voiceSide : items.stem[item];
        switch (kinds.get(marks.kind[mark], Kinds.SIDE)) {
            case 0: return stemSide;
            case 1: return byVoice ? voiceSide : -stemSide;
            case 2: return ABOVE;
            default: return BELOW;
        }
    }

    /** Answers how many marks are late. */
    private int layMarks() {
        int late = 0;
        turns = 0;
        for (int i = 0; i < queued; i++) {
            int mark = queue[i];
            int kind = marks.kind[mark];
            if (!kinds.isInRow(kind)) {
                layAt(mark, innerAlone(mark));
            } else if (marks.turn[mark] < 0) {
                late += layRow(kind, ABOVE);
                late += layRow(kind, BELOW);
            }
        }
        return late;
    }

    private int innerAlone(int mark) {
        int ground = outline(marks.side[mark])
                .greatest(marks.left[mark] - PAD, marks.behind(mark) - 1 + PAD);
        return ground + kinds.get(marks.kind[mark], Kinds.GAP);
    }

    private void layAt(int mark, int inner) {
        int outer = inner + marks.height[mark];
        marks.inner[mark] = inner;
        marks.outer[mark] = outer;
        marks.turn[mark] = turns;
        turns++;
        Outline outline = outline(marks.side[mark]);
        outline.cover(marks.left[mark], marks.behind(mark) - 1, outer);
        outline.reachOut(outer);
    }

    /** Answers how many marks of the row are late. */
    private int layRow(int kind, int side) {
        // The row's height is known only when all of its marks are, so nothing is laid before.
        int inner = fillRow(kind, side);
        outline(side).rowInner[kind] = inner;
        layRowMarks(kind, side, inner);
        return layLate(kind, side);
    }

    /** Chooses the marks that the row has; answers its inner height, NONE without any. */
    private int fillRow(int kind, int side) {
        int inner = NONE;
        for (int i = 0; i < queued; i++) {
            int mark = queue[i];
            if (marks.isOf(mark, kind, side) && isFreeInRow(i)) {
                marks.inRow[mark] = true;
                inner = Math.max(inner, innerAlone(mark));
            }
        }
        return inner;
    }

    /** Whether a mark covers no x that a mark ahead of it in the queue covers in the same row. */
    private boolean isFreeInRow(int spot) {
        int mark = queue[spot];
        for (int i = 0; i < spot; i++) {
            int other = queue[i];
            boolean sameRow = marks.isOf(other, marks.kind[mark], marks.side[mark]);
            if (sameRow && marks.inRow[other] && marks.shareX(mark, other)) {
                return false;
            }
        }
        return true;
    }

    private void layRowMarks(int kind, int side, int inner) {
        for (int i = 0; i < queued; i++) {
            int mark = queue[i];
            if (marks.isOf(mark, kind, side) && marks.inRow[mark]) {
                layAt(mark, inner);
            }
        }
    }

    private int layLate(int kind, int side) {
        int late = 0;
        for (int i = 0; i < queued; i++) {
            int mark = queue[i];
            if (marks.isOf(mark, kind, side) && !marks.inRow[mark]) {
                layAt(mark, innerAlone(mark));
                late++;
            }
        }
        return late;
    }

    /** The notes and rests, by number. */
    private static final class Items {
        private final int[] x = new int[MOST_ITEMS];
        private final int[] low = new int[MOST_ITEMS];
        private final int[] high = new int[MOST_ITEMS];
        private final int[] voice = new int[MOST_ITEMS];
        private final int[] stem = new int[MOST_ITEMS];
        private final int[] rest = new int[MOST_ITEMS];
        private int count;

        private boolean has(int item) {
            return item >= 0 && item < count;
        }

        private boolean isAt(int place) {
            for (int item = 0; item < count; item++) {
                if (x[item] == place) {
                    return true;
                }
            }
            return false;
        }

        private int add(int itsX, int lowest, int highest, int itsVoice, int itsStem, int isRest) {
            int item = count;
            x[item] = itsX;
            low[item] = lowest;
            high[item] = highest;
            voice[item] = itsVoice;
            stem[item] = itsStem;
            rest[item] = isRest;
            count++;
            return item;
        }

        /** The next item to the right, -1 without one. */
        private int next(int item) {
            int next = -1;
            for (int other = 0; other < count; other++) {
                if (x[other] > x[item] && (next < 0 || x[other] < x[next])) {
                    next = other;
                }
            }
            return next;
        }

        private int greatestX() {
            int greatest = 0;
            for (int item = 0; item < count; item++) {
                greatest = Math.max(greatest, x[item]);
            }
            return greatest;
        }

        private void moveBehind(int place, int by) {
            for (int item = 0; item < count; item++) {
                if (x[item] > place) {
                    x[item] += by;
                }
            }
        }

        private boolean haveBothVoices() {
            int inVoiceOne = 0;
            for (int item = 0; item < count; item++) {
                inVoiceOne += voice[item];
            }
            return inVoiceOne > 0 && inVoiceOne < count;
        }
    }

    /** The kinds of marks, with their settings numbered as set() numbers them. */
    private static final class Kinds {
        private static final int KINDS = 10, SETTINGS = 6;
        private static final int ORDER = 0, SIDE = 1, LIE = 2, GAP = 3, ROW = 4, OUTER = 5;
        private static final int[] AT_FIRST = {0, 1, 0, 2, 0, 0};
        private static final int[] MOST = {9, 3, 1, 20, 1, 1};

        private final int[] settings = new int[KINDS * SETTINGS];

        private Kinds() {
            for (int kind = 0; kind < KINDS; kind++) {
                for (int what = 0; what < SETTINGS; what++) {
                    settings[kind * SETTINGS + what] = what == ORDER ? kind : AT_FIRST[what];
                }
            }
        }

        private boolean has(int kind) {
            return kind >= 0 && kind < KINDS;
        }

        private boolean takes(int what, int value) {
            return what >= 0 && what < SETTINGS && value >= 0 && value <= MOST[what];
        }

        private int get(int kind, int what) {
            return settings[kind * SETTINGS + what];
        }

        private int change(int kind, int what, int value) {
            int was = get(kind, what);
            settings[kind * SETTINGS + what] = value;
            return was;
        }

        private boolean liesFromX(int kind) {
            return get(kind, LIE) == 1;
        }

        private boolean isInRow(int kind) {
            return get(kind, ROW) == 1;
        }

        /** The less, the earlier a kind's marks get their turns. */
        private int rank(int kind) {
            return get(kind, OUTER) * (MOST[ORDER] + 1) + get(kind, ORDER);
        }
    }

    /** The marks, by number; those that were dropped keep theirs. Places hold what place() found. */
    private static final class Marks {
        private final int[] item = new int[MOST_MARKS];
        private final int[] kind = new int[MOST_MARKS];
        private final int[] width = new int[MOST_MARKS];
        private final int[] height = new int[MOST_MARKS];
        private final boolean[] gone = new boolean[MOST_MARKS];
        private final int[] left = new int[MOST_MARKS];
        private final int[] side = new int[MOST_MARKS];
        private final int[] inner = new int[MOST_MARKS];
        private final int[] outer = new int[MOST_MARKS];
        private final boolean[] inRow = new boolean[MOST_MARKS];
        private final int[] turn = new int[MOST_MARKS];
        private int count;

        private boolean has(int mark) {
            return mark >= 0 && mark < count && !gone[mark];
        }

        private int add(int itsItem, int itsKind, int itsWidth, int itsHeight) {
            int mark = count;
            item[mark] = itsItem;
            kind[mark] = itsKind;
            width[mark] = itsWidth;
            height[mark] = itsHeight;
            count++;
            return mark;
        }

        private int countThere() {
            int there = 0;
            for (int mark = 0; mark < count; mark++) {
                there += gone[mark] ? 0 : 1;
            }
            return there;
        }

        private int countAt(int itsItem) {
            int there = 0;
            for (int mark = 0; mark < count; mark++) {
                there += !gone[mark] && item[mark] == itsItem ? 1 : 0;
            }
            return there;
        }

        private boolean isOn(int mark, int itsItem, int itsSide) {
            return !gone[mark] && item[mark] == itsItem && side[mark] == itsSide;
        }

        private boolean isOf(int mark, int itsKind, int itsSide) {
            return kind[mark] == itsKind && side[mark] == itsSide;
        }

        /** The first x to the right that a mark does not cover. */
        private int behind(int mark) {
            return left[mark] + width[mark];
        }

        private boolean shareX(int a, int b) {
            return left[a] < behind(b) && left[b] < behind(a);
        }

        /** How many marks lie nearer to the head at a mark's item and side. */
        private int countNearer(int mark) {
            int nearer = 0;
            for (int other = 0; other < count; other++) {
                boolean ahead = inner[other] < inner[mark]
                        || inner[other] == inner[mark] && other < mark;
                nearer += ahead && isOn(other, item[mark], side[mark]) ? 1 : 0;
            }
            return nearer;
        }
    }

    /** The slurs, by number; inner and outer hold what place() found. */
    private static final class Slurs {
        private final int[] from = new int[MOST_SLURS];
        private final int[] to = new int[MOST_SLURS];
        private final int[] side = new int[MOST_SLURS];
        private final int[] thickness = new int[MOST_SLURS];
        private final int[] inner = new int[MOST_SLURS];
        private final int[] outer = new int[MOST_SLURS];
        private int count;

        private boolean has(int slur) {
            return slur >= 0 && slur < count;
        }

        private int add(int itsFrom, int itsTo, int itsSide, int itsThickness) {
            int slur = count;
            from[slur] = itsFrom;
            to[slur] = itsTo;
            side[slur] = itsSide;
            thickness[slur] = itsThickness;
            count++;
            return slur;
        }
    }

    /**
     * One side's skyline and what else is known of that side.
     *
     * <p>The skyline is kept as blocks, not as a height for each x: whatever is laid lies beyond all
     * that was there, so the skyline at an x is the highest block over it, and a block never has to
     * be taken away.
     */
    private static final class Outline {
        private static final int MOST_BLOCKS = 2 * MOST_ITEMS + MOST_SLURS + MOST_MARKS;

        private final int[] first = new int[MOST_BLOCKS];
        private final int[] last = new int[MOST_BLOCKS];
        private final int[] height = new int[MOST_BLOCKS];
        private final int[] rowInner = new int[Kinds.KINDS];
        private int blocks;
        private int outermost;

        private void clear() {
            blocks = 0;
            outermost = 0;
            for (int kind = 0; kind < Kinds.KINDS; kind++) {
                rowInner[kind] = NONE;
            }
        }

        /** Covers from one x to another, both with it. */
        private void cover(int from, int to, int upTo) {
            // What the staff covers everywhere already needs no block.
            if (upTo > STAFF_HEIGHT && blocks < MOST_BLOCKS) {
                first[blocks] = from;
                last[blocks] = to;
                height[blocks] = upTo;
                blocks++;
            }
        }

        /** The greatest height from one x to another, both with it. */
        private int greatest(int from, int to) {
            int greatest = STAFF_HEIGHT;
            for (int block = 0; block < blocks; block++) {
                if (first[block] <= to && last[block] >= from) {
                    greatest = Math.max(greatest, height[block]);
                }
            }
            return greatest;
        }

        private void reachOut(int outer) {
            outermost = Math.max(outermost, outer);
        }
    }
}
