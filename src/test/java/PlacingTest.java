/** Promises 9, 10, 12 to 15: place, at, skyline, row, order, meets. */
public final class PlacingTest {
    private static final int BAD = Check.BAD, NONE = Check.NONE;
    private static final Check check = new Check();

    public static void main(String[] args) {
        promise12WhatNotesCover();
        promise12WhatRestsCover();
        promise12WhatMarksCover();
        promise12Bounds();
        promise12Refusals();
        promise10Lie();
        promise10SideByStem();
        promise10SideWithoutStem();
        promise10SideByVoice();
        promise10PadAndGap();
        promise10EveryMarkIsFarOut();
        promise10Turns();
        promise10TurnsAtTheBounds();
        promise10SideByOneItemOfTheOtherVoice();
        promise10EverythingAtOnce();
        promise10Refusals();
        promise9SlursComeFirst();
        promise9Late();
        promise9RowComesAtItsFirstMark();
        promise9RowAboveThenBelow();
        promise9RowHasWhatDoesNotOverlap();
        promise9RowTakesTheGreatestHeight();
        promise9RowWhoseFirstMarkIsBelow();
        promise9Again();
        promise9Anew();
        promise13Row();
        promise13Refusals();
        promise14Order();
        promise14Refusals();
        promise15Meets();
        promise15TouchingInARow();
        promise15Refusals();
        check.end();
    }

    private static void promise12WhatNotesCover() {
        StackMarks s = new StackMarks();
        s.note(100, 20, 30, 0, 1);
        s.note(200, -30, -20, 0, -1);
        s.note(300, -50, 50, 0, 0);
        s.place();
        skylineIs(s, 1, 93, 18, 94, 34, 98, 34, 99, 58, 101, 58, 102, 34, 106, 34, 107, 18);
        skylineIs(s, -1, 94, 18, 100, 18, 106, 18);
        skylineIs(s, -1, 193, 18, 194, 34, 198, 34, 199, 58, 201, 58, 202, 34, 206, 34, 207, 18);
        skylineIs(s, 1, 194, 18, 200, 18, 206, 18);
        skylineIs(s, 1, 293, 18, 294, 54, 300, 54, 306, 54, 307, 18);
        skylineIs(s, -1, 293, 18, 294, 54, 300, 54, 306, 54, 307, 18);
    }

    private static void promise12WhatRestsCover() {
        StackMarks s = new StackMarks();
        s.rest(100, 20, 0);
        s.rest(200, -20, 0);
        s.rest(300, 10, 0);
        s.place();
        skylineIs(s, 1, 94, 18, 95, 28, 105, 28, 106, 18);
        skylineIs(s, -1, 94, 18, 100, 18);
        skylineIs(s, -1, 194, 18, 195, 28, 205, 28, 206, 18);
        skylineIs(s, 1, 200, 18, 300, 18);
    }

    private static void promise12WhatMarksCover() {
        StackMarks s = new StackMarks();
        s.note(100, 0, 0, 0, 0);
        s.set(0, 1, 2);
        s.mark(0, 0, 7, 5);
        s.place();
        skylineIs(s, 1, 96, 18, 97, 25, 103, 25, 104, 18);
        skylineIs(s, -1, 97, 18, 100, 18);
    }

    private static void promise12Bounds() {
        StackMarks s = new StackMarks();
        s.note(0, 0, 0, 0, 0);
        s.note(100000, 0, 0, 0, 0);
        s.set(0, 1, 2);
        s.set(0, 2, 1);
        s.set(1, 1, 2);
        s.mark(1, 0, 400, 5);
        s.mark(0, 1, 400, 40);
        s.place();
        skylineIs(s, 1, 0, 60, 199, 60, 200, 18, 99999, 18, 100000, 25, 100399, 25);
        skylineIs(s, 1, 100400, 18, 101000, 18);
        skylineIs(s, -1, 0, 18, 101000, 18);
        check.due("left of the mark at x 0", s.at(1, 0), -200);
        check.due("skyline(101001, 1)", s.skyline(101001, 1), BAD);
        check.due("skyline(-1, 1)", s.skyline(-1, 1), BAD);
    }

    private static void promise12Refusals() {
        StackMarks s = new StackMarks();
        check.throwsState("skyline(0, 1)", () -> s.skyline(0, 1));
        check.throwsState("skyline(101000, -1)", () -> s.skyline(101000, -1));
        check.due("skyline(-1, 1) ahead of place()", s.skyline(-1, 1), BAD);
        s.place();
        for (int side : new int[] {0, 2, -2, Integer.MIN_VALUE, Integer.MAX_VALUE}) {
            check.due("skyline(5, " + side + ")", s.skyline(5, side), BAD);
        }
        check.due("skyline(MIN, 1)", s.skyline(Integer.MIN_VALUE, 1), BAD);
        check.due("skyline(MAX, 1)", s.skyline(Integer.MAX_VALUE, 1), BAD);
    }

    private static void promise10Lie() {
        StackMarks s = new StackMarks();
        s.note(100, 0, 0, 0, 0);
        s.note(1, 0, 0, 0, 0);
        s.set(1, 2, 1);
        int[][] due = {{0, 8, 96}, {0, 9, 96}, {0, 1, 100}, {1, 9, 100}, {1, 1, 100}};
        for (int i = 0; i < due.length; i++) {
            s.mark(0, due[i][0], due[i][1], 2);
        }
        s.mark(1, 0, 9, 2);
        s.place();
        for (int i = 0; i < due.length; i++) {
            check.due("left of " + i, s.at(i, 0), due[i][2]);
            check.due("right of " + i, s.at(i, 1), due[i][2] + due[i][1]);
        }
        check.due("left of the one at x 1", s.at(5, 0), -3);
        check.due("right of the one at x 1", s.at(5, 1), 6);
    }

    private static void sidesAre(StackMarks s, int item, int... due) {
        int first = 0;
        for (int side = 0; side <= 3; side++) {
            s.set(side, 1, side);
            int mark = s.mark(item, side, 2, 2);
            first = side == 0 ? mark : first;
        }
        s.place();
        for (int side = 0; side <= 3; side++) {
            check.due("item " + item + ", SIDE " + side, s.at(first + side, 2), due[side]);
        }
    }

    private static void promise10SideByStem() {
        StackMarks s = new StackMarks();
        s.note(10, 0, 0, 1, 1);
        s.note(30, 0, 0, 1, -1);
        sidesAre(s, 0, 1, -1, 1, -1);
        sidesAre(s, 1, -1, 1, 1, -1);
    }

    private static void promise10SideWithoutStem() {
        StackMarks up = new StackMarks();
        up.note(10, 0, 0, 0, 0);
        up.rest(30, 0, 0);
        up.note(50, 0, 0, 0, -1);
        sidesAre(up, 0, 1, -1, 1, -1);
        sidesAre(up, 1, 1, -1, 1, -1);
        sidesAre(up, 2, -1, 1, 1, -1);
        StackMarks down = new StackMarks();
        down.note(10, 0, 0, 1, 0);
        down.rest(30, 0, 1);
        sidesAre(down, 0, -1, 1, 1, -1);
        sidesAre(down, 1, -1, 1, 1, -1);
    }

    private static void promise10SideByVoice() {
        StackMarks s = new StackMarks();
        s.note(10, 0, 0, 0, -1);
        s.note(30, 0, 0, 1, 1);
        s.note(50, 0, 0, 0, 0);
        s.rest(70, 0, 1);
        sidesAre(s, 0, 1, 1, 1, -1);
        sidesAre(s, 1, -1, -1, 1, -1);
        sidesAre(s, 2, 1, 1, 1, -1);
        sidesAre(s, 3, -1, -1, 1, -1);
    }

    private static StackMarks markBeside(int x, int gap) {
        StackMarks s = new StackMarks();
        s.note(100, 40, 40, 0, 0);
        s.note(x, 0, 0, 0, 0);
        s.set(0, 1, 2);
        s.set(0, 2, 1);
        s.set(0, 3, gap);
        s.mark(1, 0, 5, 4);
        s.place();
        return s;
    }

    private static void promise10PadAndGap() {
        // The note at 100 covers 94 .. 106 up to 44; PAD reaches 1 beyond the mark's ends.
        check.due("to the right, PAD meets it", markBeside(107, 2).at(0, 3), 46);
        check.due("to the right, PAD misses it", markBeside(108, 2).at(0, 3), 20);
        check.due("to the left, PAD meets it", markBeside(89, 2).at(0, 3), 46);
        check.due("to the left, PAD misses it", markBeside(88, 2).at(0, 3), 20);
        check.due("GAP 0", markBeside(107, 0).at(0, 3), 44);
        check.due("GAP 20", markBeside(107, 20).at(0, 3), 64);
        check.due("OUTER", markBeside(107, 20).at(0, 4), 68);
        check.due("skyline without PAD", markBeside(108, 2).skyline(107, 1), 18);
        check.due("skyline at its first x", markBeside(108, 2).skyline(108, 1), 24);
        check.due("skyline at its last x", markBeside(108, 2).skyline(112, 1), 24);
        check.due("skyline behind it", markBeside(108, 2).skyline(113, 1), 18);
    }

    private static void promise10EveryMarkIsFarOut() {
        StackMarks s = new StackMarks();
        s.note(50000, 60, 60, 0, 1);
        s.set(0, 1, 0);
        s.set(0, 3, 20);
        for (int i = 0; i < 80; i++) {
            s.mark(0, 0, 400, 40);
        }
        s.place();
        check.due("the last one's OUTER height", s.at(79, 4), 88 + 80 * 60);
        check.due("count(4)", s.count(4), 88 + 80 * 60);
        check.due("skyline(50199, 1)", s.skyline(50199, 1), 88 + 80 * 60);
    }

    private static void promise10Turns() {
        StackMarks s = new StackMarks();
        s.note(300, 0, 0, 0, 0);
        s.note(100, 0, 0, 0, 0);
        s.note(200, 0, 0, 0, 0);
        s.set(1, 5, 1); // OUTER, though its ORDER is 1
        s.set(5, 0, 2); // the same ORDER as KIND 2
        int[][] marks = {{0, 1}, {0, 2}, {1, 5}, {2, 2}, {1, 9}, {2, 5}, {1, 1}, {0, 0}};
        for (int[] m : marks) {
            s.mark(m[0], m[1], 4, 4);
        }
        s.place();
        int[] turns = {7, 4, 1, 2, 5, 3, 6, 0};
        for (int i = 0; i < turns.length; i++) {
            check.due("turn of " + i, s.at(i, 6), turns[i]);
        }
    }

    private static void promise10TurnsAtTheBounds() {
        StackMarks s = new StackMarks();
        s.note(100000, 0, 0, 0, 0);
        s.note(0, 0, 0, 0, 0);
        s.set(0, 5, 1); // OUTER and the least ORDER, at the least x: still behind all others
        s.mark(1, 0, 4, 4);
        s.mark(0, 9, 4, 4);
        s.mark(1, 9, 4, 4);
        s.mark(0, 8, 4, 4); // the less ORDER, at the greatest x: still ahead of KIND 9
        s.place();
        int[] turns = {3, 2, 1, 0};
        for (int i = 0; i < turns.length; i++) {
            check.due("turn of " + i, s.at(i, 6), turns[i]);
        }
    }

    private static void promise10SideByOneItemOfTheOtherVoice() {
        StackMarks one = new StackMarks();
        one.note(10, 0, 0, 0, 0);
        one.note(30, 0, 0, 0, 0);
        one.note(50, 0, 0, 1, 0);
        sidesAre(one, 0, 1, 1, 1, -1);
        StackMarks zero = new StackMarks();
        zero.note(10, 0, 0, 0, 0);
        zero.note(30, 0, 0, 1, 0);
        zero.note(50, 0, 0, 1, 0);
        sidesAre(zero, 2, -1, -1, 1, -1);
    }

    private static void promise10EverythingAtOnce() {
        StackMarks s = new StackMarks();
        for (int i = 0; i < 40; i++) {
            s.note(i * 20, 20, 20, 0, 1);
        }
        s.set(0, 1, 2);
        for (int i = 0; i < 10; i++) {
            s.slur(0, 39, 1, 1);
        }
        for (int i = 0; i < 80; i++) {
            s.mark(i % 40, 0, 1, 1);
        }
        check.due("place()", s.place(), 0);
        // notes up to 48, slurs 7 each, two marks 3 each
        check.due("the last slur's outer height", s.slurAt(9, 1), 48 + 10 * 7 - 3);
        check.due("the first mark's INNER height", s.at(0, 3), 48 + 70 + 2);
        check.due("the last mark's OUTER height", s.at(79, 4), 48 + 70 + 6);
        check.due("the last mark's turn", s.at(79, 6), 79);
        check.due("the first one's turn", s.at(0, 6), 0);
        for (int i = 0; i < 40; i++) {
            check.due("skyline over item " + i, s.skyline(i * 20, 1), 48 + 70 + 6);
            check.due("skyline beside item " + i, s.skyline(i * 20 + 1, 1), i == 39 ? 48 : 48 + 70);
        }
    }

    private static void promise10Refusals() {
        StackMarks s = new StackMarks();
        s.note(10, 0, 0, 0, 0);
        s.mark(0, 0, 4, 4);
        for (int what = 0; what <= 6; what++) {
            int it = what;
            check.throwsState("at(0, " + what + ") ahead of place()", () -> s.at(0, it));
        }
        check.due("at(1, 0) ahead of place()", s.at(1, 0), BAD);
        check.due("at(0, 7) ahead of place()", s.at(0, 7), BAD);
        s.place();
        int[][] bad = {
            {-1, 0}, {1, 0}, {0, -1}, {0, 7}, {80, 0}, {Integer.MIN_VALUE, 0}, {Integer.MAX_VALUE, 0},
            {0, Integer.MIN_VALUE}, {0, Integer.MAX_VALUE}
        };
        for (int[] b : bad) {
            check.due("at(" + b[0] + ", " + b[1] + ")", s.at(b[0], b[1]), BAD);
        }
    }

    private static void promise9SlursComeFirst() {
        StackMarks s = new StackMarks();
        s.note(10, 0, 0, 0, 0);
        s.note(50, 0, 0, 0, 0);
        s.set(0, 1, 2);
        s.mark(0, 0, 4, 4);
        s.slur(0, 1, 1, 5);
        check.due("place()", s.place(), 0);
        check.due("the slur's inner height", s.slurAt(0, 0), 21);
        check.due("the mark's INNER height", s.at(0, 3), 31);
    }

    private static void promise9Late() {
        StackMarks s = new StackMarks();
        s.note(100, 0, 0, 0, 0);
        s.set(3, 4, 1);
        s.mark(0, 3, 10, 4);
        s.mark(0, 3, 10, 4);
        s.mark(0, 3, 10, 4);
        check.due("place()", s.place(), 2);
        for (int i = 0; i < 3; i++) {
            check.due("at(" + i + ", 5)", s.at(i, 5), i == 0 ? 1 : 0);
            check.due("at(" + i + ", 3)", s.at(i, 3), 20 + i * 6);
        }
        check.due("row(3, -1)", s.row(3, -1), 20);
        s.set(3, 4, 0);
        check.due("place() without ROW", s.place(), 0);
        check.due("at(0, 5) without ROW", s.at(0, 5), 0);
        check.due("at(2, 3) without ROW", s.at(2, 3), 32);
    }

    private static void promise9RowComesAtItsFirstMark() {
        StackMarks s = new StackMarks();
        s.note(100, 0, 0, 0, 0);
        s.note(200, 0, 0, 0, 0);
        s.note(300, 0, 0, 0, 0);
        s.set(4, 0, 3); // KINDS 3 and 4 have one ORDER
        s.set(4, 4, 1);
        s.mark(0, 3, 4, 4); // turn 0
        s.mark(1, 4, 4, 4); // turn 1: the row's first mark
        s.mark(1, 3, 4, 4); // turn 4: by x and number it would stand ahead of 3
        s.mark(2, 4, 4, 4); // turn 2: with the row
        s.mark(2, 4, 4, 4); // turn 3: late, right behind the row
        check.due("place()", s.place(), 1);
        int[] turns = {0, 1, 4, 2, 3};
        for (int i = 0; i < turns.length; i++) {
            check.due("turn of " + i, s.at(i, 6), turns[i]);
        }
        check.due("INNER of 2, beyond the row", s.at(2, 3), 26);
    }

    private static void promise9RowAboveThenBelow() {
        StackMarks s = new StackMarks();
        s.note(100, 0, 0, 0, 1);
        s.note(200, 0, 0, 0, -1);
        s.note(300, 30, 30, 0, 1);
        s.set(2, 4, 1);
        s.set(2, 1, 0);
        s.mark(1, 2, 4, 4); // below
        s.mark(0, 2, 4, 4); // above
        s.mark(0, 2, 4, 4); // above, late
        s.mark(2, 2, 4, 4); // above
        s.mark(1, 2, 4, 4); // below, late
        check.due("place()", s.place(), 2);
        int[] turns = {3, 0, 2, 1, 4};
        for (int i = 0; i < turns.length; i++) {
            check.due("turn of " + i, s.at(i, 6), turns[i]);
        }
        check.due("row(2, 1)", s.row(2, 1), 60);
        check.due("row(2, -1)", s.row(2, -1), 30);
        check.due("INNER of 1", s.at(1, 3), 60);
        check.due("INNER of 2, beyond 1", s.at(2, 3), 66);
        check.due("INNER of 0", s.at(0, 3), 30);
        check.due("INNER of 4, beyond 0", s.at(4, 3), 36);
    }

    private static void promise9RowHasWhatDoesNotOverlap() {
        StackMarks s = new StackMarks();
        s.note(100, 0, 0, 0, 0);
        s.note(110, 0, 0, 0, 0);
        s.note(120, 0, 0, 0, 0);
        s.note(130, 0, 0, 0, 0);
        s.set(2, 4, 1);
        s.set(2, 2, 1);
        s.mark(3, 2, 9, 4); // 130 .. 139
        s.mark(0, 2, 10, 4); // 100 .. 110
        s.mark(1, 2, 11, 4); // 110 .. 121, touches the one ahead but does not overlap
        s.mark(2, 2, 15, 4); // 120 .. 135, overlaps the one ahead: late, so it takes no room
        check.due("place()", s.place(), 1);
        int[] inRow = {1, 1, 1, 0};
        int[] turns = {2, 0, 1, 3};
        for (int i = 0; i < inRow.length; i++) {
            check.due("at(" + i + ", 5)", s.at(i, 5), inRow[i]);
            check.due("at(" + i + ", 6)", s.at(i, 6), turns[i]);
        }
        check.due("INNER of the late one", s.at(3, 3), 26);
    }

    private static void promise9RowTakesTheGreatestHeight() {
        StackMarks s = new StackMarks();
        s.note(100, 0, 0, 0, 0);
        s.note(110, 0, 0, 0, 0);
        s.note(200, 0, 50, 0, 0);
        s.set(2, 4, 1);
        s.set(2, 2, 1);
        s.set(2, 1, 2);
        s.mark(0, 2, 10, 4);
        s.mark(1, 2, 10, 30); // beside 0: by a skyline that has 0 it would lie further out
        check.due("place()", s.place(), 0);
        check.due("row(2, 1)", s.row(2, 1), 20);
        check.due("INNER of 1", s.at(1, 3), 20);
        s.mark(2, 2, 10, 4);
        check.due("place()", s.place(), 0);
        check.due("row(2, 1) with a high note", s.row(2, 1), 56);
        for (int i = 0; i < 3; i++) {
            check.due("INNER of " + i, s.at(i, 3), 56);
        }
        check.due("OUTER of 1", s.at(1, 4), 86);
        check.due("skyline(119, 1)", s.skyline(119, 1), 86);
        check.due("skyline(120, 1)", s.skyline(120, 1), 18);
    }

    private static void promise9RowWhoseFirstMarkIsBelow() {
        StackMarks s = new StackMarks();
        s.note(100, 0, 0, 0, -1);
        s.note(200, 0, 0, 0, 1);
        s.set(2, 4, 1);
        s.set(2, 1, 0);
        s.mark(0, 2, 4, 4); // below
        s.mark(1, 2, 4, 4); // above
        s.mark(1, 2, 4, 4); // above, late
        check.due("place()", s.place(), 1);
        int[] turns = {2, 0, 1};
        for (int i = 0; i < turns.length; i++) {
            check.due("turn of " + i, s.at(i, 6), turns[i]);
        }
        check.due("skyline(200, 1)", s.skyline(200, 1), 40);
        check.due("skyline(100, -1)", s.skyline(100, -1), 34);
    }

    private static void promise9Anew() {
        StackMarks s = new StackMarks();
        s.note(100, 50, 50, 0, 0);
        s.set(0, 4, 1);
        s.set(0, 1, 2);
        s.mark(0, 0, 4, 4);
        s.place();
        check.due("row(0, 1)", s.row(0, 1), 56);
        s.lift(0, -50);
        s.set(0, 1, 3);
        s.place();
        check.due("skyline(100, 1): nothing is left of it", s.skyline(100, 1), 18);
        check.due("row(0, 1): it lies below now", s.row(0, 1), NONE);
        check.due("row(0, -1)", s.row(0, -1), 20);
        check.due("count(4)", s.count(4), 0);
        check.due("count(5)", s.count(5), 24);
    }

    private static void promise9Again() {
        StackMarks s = new StackMarks();
        s.note(100, 0, 0, 0, 0);
        s.note(200, 0, 0, 0, 0);
        s.slur(0, 1, -1, 4);
        s.set(2, 4, 1);
        s.mark(0, 2, 10, 4);
        s.mark(0, 2, 10, 4);
        check.due("place()", s.place(), 1);
        String once = Snapshot.of(s, 2, 2, 1);
        check.due("place() again", s.place(), 1);
        check.due("the places", Snapshot.of(s, 2, 2, 1), once);
    }

    private static void promise13Row() {
        StackMarks s = new StackMarks();
        s.note(100, 0, 0, 0, 1);
        s.set(2, 4, 1);
        s.set(2, 1, 2);
        s.mark(0, 2, 4, 4);
        s.mark(0, 3, 4, 4);
        s.place();
        check.due("row(2, 1)", s.row(2, 1), 30);
        check.due("row(2, -1): no mark there", s.row(2, -1), NONE);
        check.due("row(3, -1): in no row", s.row(3, -1), NONE);
        check.due("row(9, 1): no mark", s.row(9, 1), NONE);
        s.set(9, 4, 1);
        s.place();
        check.due("row(9, 1): in a row, no mark", s.row(9, 1), NONE);
        s.drop(0);
        s.place();
        check.due("row(2, 1): dropped", s.row(2, 1), NONE);
        s.set(3, 4, 1);
        s.place();
        check.due("row(3, -1)", s.row(3, -1), 20);
        s.set(3, 4, 0);
        s.place();
        check.due("row(3, -1): no more", s.row(3, -1), NONE);
    }

    private static void promise13Refusals() {
        StackMarks s = new StackMarks();
        check.throwsState("row(0, 1) ahead of place()", () -> s.row(0, 1));
        check.due("row(10, 1) ahead of place()", s.row(10, 1), BAD);
        s.place();
        for (int kind = 0; kind <= 9; kind++) {
            check.due("row(" + kind + ", 1)", s.row(kind, 1), NONE);
            check.due("row(" + kind + ", -1)", s.row(kind, -1), NONE);
        }
        int[][] bad = {
            {-1, 1}, {10, 1}, {0, 0}, {0, 2}, {0, -2}, {Integer.MIN_VALUE, 1}, {Integer.MAX_VALUE, 1},
            {0, Integer.MAX_VALUE}
        };
        for (int[] b : bad) {
            check.due("row(" + b[0] + ", " + b[1] + ")", s.row(b[0], b[1]), BAD);
        }
    }

    private static void promise14Order() {
        StackMarks s = new StackMarks();
        s.note(100, 0, 0, 0, 0);
        s.note(200, 0, 0, 0, 0);
        s.set(5, 1, 2);
        s.mark(0, 4, 4, 4);
        s.mark(0, 1, 4, 4);
        s.mark(0, 5, 4, 4); // above
        s.mark(1, 0, 4, 4); // of another item
        s.mark(0, 1, 4, 4);
        s.mark(0, 0, 4, 4);
        s.place();
        int[] below = {5, 1, 4, 0, NONE};
        for (int k = 0; k < below.length; k++) {
            check.due("order(0, -1, " + k + ")", s.order(0, -1, k), below[k]);
        }
        check.due("order(0, 1, 0)", s.order(0, 1, 0), 2);
        check.due("order(0, 1, 1)", s.order(0, 1, 1), NONE);
        check.due("order(1, -1, 0)", s.order(1, -1, 0), 3);
        check.due("order(1, 1, 0)", s.order(1, 1, 0), NONE);
        for (int k : new int[] {-1, Integer.MIN_VALUE, Integer.MAX_VALUE}) {
            check.due("order(0, -1, " + k + ")", s.order(0, -1, k), NONE);
        }
    }

    private static void promise14Refusals() {
        StackMarks s = new StackMarks();
        s.note(100, 0, 0, 0, 0);
        check.throwsState("order(0, 1, 0) ahead of place()", () -> s.order(0, 1, 0));
        check.throwsState("order(0, 1, -1) ahead of place()", () -> s.order(0, 1, -1));
        check.due("order(1, 1, 0) ahead of place()", s.order(1, 1, 0), BAD);
        s.place();
        int[][] bad = {
            {-1, 1, 0}, {1, 1, 0}, {0, 0, 0}, {0, 2, 0}, {0, -2, 0}, {1, 1, -1}, {0, 0, -1},
            {Integer.MIN_VALUE, 1, 0}, {Integer.MAX_VALUE, 1, 0}
        };
        for (int[] b : bad) {
            check.due("order(" + b[0] + ", " + b[1] + ", " + b[2] + ")", s.order(b[0], b[1], b[2]), BAD);
        }
    }

    private static void promise15Meets() {
        StackMarks s = new StackMarks();
        s.note(100, 0, 0, 0, 0);
        s.note(110, 0, 0, 0, 0);
        s.set(0, 3, 0);
        s.set(1, 1, 2);
        s.mark(0, 0, 4, 4);
        s.mark(0, 0, 4, 4); // right on 0, with no gap
        s.mark(0, 1, 4, 4); // on the other side, at the height of 0
        s.mark(1, 0, 4, 4); // beside 0, at the height of 0
        s.place();
        check.due("INNER of 1", s.at(1, 3), s.at(0, 4));
        for (int a = 0; a < 4; a++) {
            for (int b = 0; b < 4; b++) {
                check.due("meets(" + a + ", " + b + ")", s.meets(a, b), a == b ? BAD : 0);
            }
        }
    }

    private static void promise15TouchingInARow() {
        StackMarks s = new StackMarks();
        s.note(100, 0, 0, 0, 0);
        s.note(110, 0, 0, 0, 0);
        s.set(0, 2, 1);
        s.set(0, 4, 1);
        s.mark(0, 0, 10, 4);
        s.mark(1, 0, 10, 4);
        s.place();
        check.due("one height", s.at(0, 3), s.at(1, 3));
        check.due("meets(0, 1)", s.meets(0, 1), 0);
        check.due("meets(1, 0)", s.meets(1, 0), 0);
    }

    private static void promise15Refusals() {
        StackMarks s = new StackMarks();
        s.note(100, 0, 0, 0, 0);
        s.mark(0, 0, 4, 4);
        s.mark(0, 0, 4, 4);
        check.throwsState("meets(0, 1) ahead of place()", () -> s.meets(0, 1));
        check.due("meets(0, 0) ahead of place()", s.meets(0, 0), BAD);
        check.due("meets(0, 2) ahead of place()", s.meets(0, 2), BAD);
        s.place();
        int[][] bad = {
            {-1, 0}, {0, -1}, {2, 0}, {0, 2}, {1, 1}, {Integer.MIN_VALUE, 0}, {0, Integer.MAX_VALUE}
        };
        for (int[] b : bad) {
            check.due("meets(" + b[0] + ", " + b[1] + ")", s.meets(b[0], b[1]), BAD);
        }
    }

    /** The pairs are an x and the height that is due there. */
    private static void skylineIs(StackMarks s, int side, int... pairs) {
        for (int i = 0; i + 1 < pairs.length; i += 2) {
            check.due("skyline(" + pairs[i] + ", " + side + ")", s.skyline(pairs[i], side), pairs[i + 1]);
        }
    }
}
