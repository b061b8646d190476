/** Promises 9 and 13: place, row; what comes when, rows and their late marks. */
public final class PlaceTest {
    private static final int NONE = Check.NONE;
    private static final Check check = new Check();

    public static void main(String[] args) {
        check.runAll(PlaceTest.class);
    }

    private static void atIs(StackMarks s, int what, int... due) {
        for (int mark = 0; mark < due.length; mark++) {
            check.due("at(" + mark + ", " + what + ")", s.at(mark, what), due[mark]);
        }
    }

    /** Notes at 100, 110, 120, 130; kind 2 is in a row above, its marks go from x. */
    private static StackMarks rowAbove() {
        StackMarks s = new StackMarks();
        for (int x = 100; x <= 130; x += 10) {
            s.note(x, 0, 0, 0, 0);
        }
        s.set(2, 1, 2);
        s.set(2, 2, 1);
        s.set(2, 4, 1);
        return s;
    }

    /** Notes with stem up at 100, down at 200, up at 300; kind 2 is in a row on the stems' side. */
    private static StackMarks rowOnBothSides() {
        StackMarks s = new StackMarks();
        s.note(100, 0, 0, 0, 1);
        s.note(200, 0, 0, 0, -1);
        s.note(300, 30, 30, 0, 1);
        s.set(2, 4, 1);
        s.set(2, 1, 0);
        return s;
    }

    private static void promise9NothingIsThere() {
        StackMarks s = new StackMarks();
        check.due("place()", s.place(), 0);
        check.due("count(3)", s.count(3), 1);
        s.note(100, 0, 0, 0, 0);
        check.due("place() with a note alone", s.place(), 0);
    }

    /** "how many MARKS are LATE" */
    private static void promise9HowManyAreLate() {
        StackMarks s = rowAbove();
        s.mark(0, 2, 10, 4);
        check.due("place() with one", s.place(), 0);
        s.mark(0, 2, 10, 4);
        s.mark(0, 2, 10, 4);
        check.due("place() with three", s.place(), 2);
        s.set(2, 4, 0);
        check.due("place() without a row", s.place(), 0);
    }

    private static void promise9LateOnBothSidesAndInSeveralRows() {
        StackMarks s = rowOnBothSides();
        s.set(3, 4, 1);
        for (int i = 0; i < 3; i++) {
            s.mark(0, 2, 4, 4); // above: 2 late
            s.mark(1, 2, 4, 4); // below: 2 late
            s.mark(2, 3, 4, 4); // of another kind: 2 late
        }
        check.due("place()", s.place(), 6);
    }

    private static void promise9SeventyNineAreLate() {
        StackMarks s = rowAbove();
        for (int i = 0; i < 80; i++) {
            s.mark(0, 2, 10, 4);
        }
        check.due("place()", s.place(), 79);
        check.due("row(2, 1)", s.row(2, 1), 20);
        check.due("INNER of the last", s.at(79, 3), 20 + 79 * 6);
    }

    private static void promise9Again() {
        StackMarks s = rowAbove();
        s.slur(0, 1, 1, 4);
        s.mark(0, 2, 10, 4);
        s.mark(0, 2, 10, 4);
        check.due("place()", s.place(), 1);
        String once = Snapshot.of(s, 4, 2, 1);
        check.due("place() again", s.place(), 1);
        check.due("the places", Snapshot.of(s, 4, 2, 1), once);
    }

    private static void promise9NothingIsLeftOfTheLastPlacing() {
        StackMarks s = new StackMarks();
        s.note(100, 50, 50, 0, 0);
        s.set(0, 4, 1);
        s.set(0, 1, 2);
        s.mark(0, 0, 4, 4);
        s.place();
        check.due("row(0, 1)", s.row(0, 1), 56);
        s.lift(0, -50);
        s.set(0, 1, 3);
        s.place();
        check.due("skyline(100, 1)", s.skyline(100, 1), 18);
        check.due("row(0, 1): it lies below now", s.row(0, 1), NONE);
        check.due("row(0, -1)", s.row(0, -1), 20);
        check.due("count(4)", s.count(4), 0);
        check.due("count(5)", s.count(5), 24);
    }

    /** "First SLURS by numbers", "Then MARKS" */
    private static void promise9SlursComeFirst() {
        StackMarks s = new StackMarks();
        s.note(10, 0, 0, 0, 0);
        s.note(50, 0, 0, 0, 0);
        s.set(0, 1, 2);
        s.mark(0, 0, 4, 4);
        s.slur(0, 1, 1, 5);
        check.due("place()", s.place(), 0);
        check.due("the slur's inner height", s.slurAt(0, 0), 21);
        check.due("the mark's INNER height", s.at(0, 3), 31);
    }

    /** "those of a KIND that is in a ROW come all at the turn of the first of them" */
    private static void promise9RowComesAtTheTurnOfItsFirst() {
        StackMarks s = new StackMarks();
        s.note(100, 0, 0, 0, 0);
        s.note(200, 0, 0, 0, 0);
        s.note(300, 0, 0, 0, 0);
        s.set(4, 0, 3); // kinds 3 and 4 have one ORDER
        s.set(4, 4, 1);
        s.mark(0, 3, 4, 4); // ahead of the row's first, by x
        s.mark(1, 4, 4, 4); // the row's first
        s.mark(1, 3, 4, 4); // behind it, by number
        s.mark(2, 4, 4, 4); // with the row, though 2 is ahead of it by x
        s.mark(2, 4, 4, 4); // late, right behind the row
        check.due("place()", s.place(), 1);
        atIs(s, 6, 0, 1, 4, 2, 3);
        check.due("INNER of 2, beyond the row", s.at(2, 3), 26);
    }

    /** "not OUTER ones first, then OUTER ones": rows, too */
    private static void promise9RowOfAnOuterKindComesBehindTheOthers() {
        StackMarks s = rowAbove();
        s.set(2, 5, 1);
        s.mark(0, 2, 4, 4);
        s.mark(0, 2, 4, 4); // late
        s.mark(3, 9, 4, 4);
        check.due("place()", s.place(), 1);
        atIs(s, 6, 1, 2, 0);
    }

    /** "at the turn of the first of them": each row has its own first one */
    private static void promise9TwoRowsOfOneOrder() {
        StackMarks s = rowAbove();
        s.set(3, 0, 2);
        s.set(3, 4, 1);
        s.mark(2, 2, 4, 4);
        s.mark(3, 3, 4, 4);
        s.mark(1, 3, 4, 4); // the first of all
        s.mark(3, 2, 4, 4);
        check.due("place()", s.place(), 0);
        atIs(s, 6, 2, 1, 0, 3);
    }

    /** "at the turn of the first of them": a dropped one has no turn */
    private static void promise9TheFirstOfARowIsDropped() {
        StackMarks s = rowAbove();
        s.set(3, 0, 2);
        s.mark(0, 2, 4, 4);
        s.mark(1, 3, 4, 4);
        s.mark(2, 2, 4, 4);
        s.place();
        check.due("turn of 2, in the row of 0", s.at(2, 6), 1);
        s.drop(0);
        s.place();
        check.due("turn of 1", s.at(1, 6), 0);
        check.due("turn of 2, the first of its row now", s.at(2, 6), 1);
    }

    /** "(those above first, the LATE ones there, too; then those below)" */
    private static void promise9AboveFirstThenBelow() {
        StackMarks s = rowOnBothSides();
        s.mark(1, 2, 4, 4); // below
        s.mark(0, 2, 4, 4); // above
        s.mark(0, 2, 4, 4); // above, late
        s.mark(2, 2, 4, 4); // above
        s.mark(1, 2, 4, 4); // below, late
        check.due("place()", s.place(), 2);
        atIs(s, 6, 3, 0, 2, 1, 4);
        atIs(s, 3, 30, 60, 66, 60, 36);
    }

    /** "(those above first ..)": also if the first of them all by x is below */
    private static void promise9AboveFirstThoughTheFirstIsBelow() {
        StackMarks s = rowOnBothSides();
        s.note(50, 0, 0, 0, -1);
        s.mark(3, 2, 4, 4); // below, at the least x
        s.mark(0, 2, 4, 4); // above
        s.mark(0, 2, 4, 4); // above, late
        check.due("place()", s.place(), 1);
        atIs(s, 6, 2, 0, 1);
        check.due("skyline(100, 1)", s.skyline(100, 1), 40);
        check.due("skyline(50, -1)", s.skyline(50, -1), 34);
    }

    /** "that cover no x that one which it has covers already": touching is no common x */
    private static void promise9TouchingMarksAreInTheRow() {
        StackMarks s = rowAbove();
        s.mark(0, 2, 10, 4); // 100 .. 109
        s.mark(1, 2, 10, 4); // 110 .. 119
        check.due("place()", s.place(), 0);
        atIs(s, 5, 1, 1);
        atIs(s, 3, 20, 20);
    }

    /** "that cover no x that one which it has covers already": one common x is enough */
    private static void promise9OneCommonXMakesLate() {
        StackMarks s = rowAbove();
        s.mark(0, 2, 11, 4); // 100 .. 110
        s.mark(1, 2, 10, 4); // 110 .. 119
        check.due("place()", s.place(), 1);
        atIs(s, 5, 1, 0);
        atIs(s, 3, 20, 26);
    }

    /** "gone through by x of their ITEM" */
    private static void promise9RowIsGoneThroughByX() {
        StackMarks s = rowAbove();
        s.mark(1, 2, 10, 4); // 110 .. 119, the first by number
        s.mark(0, 2, 11, 4); // 100 .. 110, the first by x
        check.due("place()", s.place(), 1);
        atIs(s, 5, 0, 1);
        atIs(s, 6, 1, 0);
    }

    /** "gone through by x of their ITEM": not by left edge */
    private static void promise9RowIsNotGoneThroughByLeftEdge() {
        StackMarks s = rowAbove();
        s.set(2, 2, 0);
        s.mark(1, 2, 60, 4); // 80 .. 139
        s.mark(0, 2, 4, 4); // 98 .. 101
        check.due("place()", s.place(), 1);
        atIs(s, 5, 0, 1);
    }

    /** "then by number" */
    private static void promise9RowIsGoneThroughByNumber() {
        StackMarks s = rowAbove();
        s.mark(0, 2, 10, 4);
        s.mark(0, 2, 5, 4);
        check.due("place()", s.place(), 1);
        atIs(s, 5, 1, 0);
        atIs(s, 6, 0, 1);
    }

    /** "that one which it has covers": a late mark takes no room in the row */
    private static void promise9LateMarksTakeNoRoomInTheRow() {
        StackMarks s = rowAbove();
        s.mark(0, 2, 11, 4); // 100 .. 110
        s.mark(1, 2, 15, 4); // 110 .. 124: late
        s.mark(2, 2, 5, 4); // 120 .. 124: has no x in common with mark 0
        check.due("place()", s.place(), 1);
        atIs(s, 5, 1, 0, 1);
        atIs(s, 6, 0, 2, 1);
        atIs(s, 3, 20, 26, 20);
    }

    /** "A ROW on one side has those of its MARKS there": those of the other side take no room in it */
    private static void promise9MarksOfTheOtherSideTakeNoRoomInTheRow() {
        StackMarks s = rowOnBothSides();
        s.note(104, 0, 0, 0, -1);
        s.mark(0, 2, 9, 4); // above
        s.mark(3, 2, 9, 4); // below, with x in common
        check.due("place()", s.place(), 0);
        atIs(s, 2, 1, -1);
        atIs(s, 5, 1, 1);
    }

    /** "those of its MARKS": those of another kind that is in a row take no room in it */
    private static void promise9MarksOfAnotherKindTakeNoRoomInTheRow() {
        StackMarks s = rowAbove();
        s.set(1, 1, 2);
        s.set(1, 4, 1);
        s.mark(0, 1, 10, 4); // of another row above
        s.mark(0, 2, 10, 4);
        check.due("place()", s.place(), 0);
        atIs(s, 5, 1, 1);
        atIs(s, 3, 20, 26);
    }

    /** "All that it has lie at one INNER height, the greatest that one of them would have by itself" */
    private static void promise9OneInnerHeight() {
        StackMarks s = rowAbove();
        s.note(200, 0, 50, 0, 0);
        s.mark(0, 2, 5, 4);
        s.mark(4, 2, 10, 9);
        s.mark(2, 2, 5, 30);
        check.due("place()", s.place(), 0);
        atIs(s, 3, 56, 56, 56);
        atIs(s, 4, 60, 65, 86);
        check.due("skyline(100, 1)", s.skyline(100, 1), 60);
        check.due("skyline(124, 1)", s.skyline(124, 1), 86);
        check.due("skyline(125, 1)", s.skyline(125, 1), 18);
    }

    /** "the greatest that one of them would have": what only a late one would meet does not count */
    private static void promise9LateMarksDoNotRaiseTheRow() {
        StackMarks s = rowAbove();
        s.note(200, 0, 50, 0, 0); // covers 194 .. 206 up to 54
        s.mark(0, 2, 10, 4);
        s.mark(0, 2, 100, 4); // late, up to 199
        check.due("place()", s.place(), 1);
        atIs(s, 3, 20, 56);
        check.due("row(2, 1)", s.row(2, 1), 20);
    }

    /** "(each by the SKYLINE ahead of all of them)": touching ones do not raise one another by PAD */
    private static void promise9ByTheSkylineAheadOfAllOfThem() {
        StackMarks s = rowAbove();
        s.mark(0, 2, 10, 30);
        s.mark(1, 2, 10, 4);
        check.due("place()", s.place(), 0);
        atIs(s, 3, 20, 20);
        atIs(s, 4, 50, 24);
    }

    /** "Behind that its LATE ones come, in the same order, each by itself" */
    private static void promise9LateMarksByThemselves() {
        StackMarks s = rowAbove();
        s.mark(0, 2, 31, 4); // 100 .. 130, the row
        s.mark(3, 2, 5, 4); // late, the third by x
        s.mark(1, 2, 5, 7); // late, the first by x
        s.mark(1, 2, 20, 2); // late, beyond it: 110 .. 129, and PAD reaches 130
        check.due("place()", s.place(), 3);
        atIs(s, 5, 1, 0, 0, 0);
        atIs(s, 6, 0, 3, 1, 2);
        // 24 is the row; 1 lies beyond 3, as its PAD reaches 129
        atIs(s, 3, 20, 39, 26, 35);
    }

    /** "A ROW on one side": each side has a height of its own */
    private static void promise13EachSideHasItsOwn() {
        StackMarks s = rowOnBothSides();
        s.mark(0, 2, 4, 4);
        s.mark(1, 2, 4, 4);
        s.mark(2, 2, 4, 4);
        s.place();
        check.due("row(2, 1)", s.row(2, 1), 60);
        check.due("row(2, -1)", s.row(2, -1), 30);
    }

    /** "NONE: .. (it is in no ROW ..)" */
    private static void promise13NoneInNoRow() {
        StackMarks s = rowAbove();
        s.mark(0, 3, 4, 4);
        s.place();
        check.due("row(3, -1)", s.row(3, -1), NONE);
        s.set(3, 4, 1);
        s.place();
        check.due("row(3, -1) in a row", s.row(3, -1), 20);
        s.set(3, 4, 0);
        s.place();
        check.due("row(3, -1) in no row again", s.row(3, -1), NONE);
    }

    /** "NONE: .. (.. or has no MARK)" */
    private static void promise13NoneWithoutAMark() {
        StackMarks s = rowAbove();
        s.place();
        check.due("row(2, 1) without a mark", s.row(2, 1), NONE);
        s.mark(0, 2, 4, 4);
        s.place();
        check.due("row(2, 1) with a mark", s.row(2, 1), 20);
        s.drop(0);
        s.place();
        check.due("row(2, 1), its mark dropped", s.row(2, 1), NONE);
    }

    /** "NONE: it has none there" */
    private static void promise13NoneOnTheOtherSide() {
        StackMarks s = rowAbove();
        s.mark(0, 2, 4, 4);
        s.place();
        check.due("row(2, 1)", s.row(2, 1), 20);
        check.due("row(2, -1)", s.row(2, -1), NONE);
        s.set(2, 1, 3);
        s.place();
        check.due("row(2, 1) behind set", s.row(2, 1), NONE);
        check.due("row(2, -1) behind set", s.row(2, -1), 20);
    }

    /** "KINDS 0 .. 9" */
    private static void promise13KindFrom0To9() {
        StackMarks s = rowAbove();
        for (int kind = 0; kind <= 9; kind++) {
            s.set(kind, 1, 2);
            s.set(kind, 4, 1);
            s.mark(0, kind, 4, 4);
        }
        s.place();
        for (int kind = 0; kind <= 9; kind++) {
            check.due("row(" + kind + ", 1)", s.row(kind, 1), 20 + 6 * kind);
        }
        for (int kind : Check.beyond(0, 9)) {
            check.bad("row(" + kind + ", 1)", s.row(kind, 1));
        }
    }

    /** "on a side" */
    private static void promise13SideIs1OrMinus1() {
        StackMarks s = rowAbove();
        s.place();
        check.bad("row(2, 0)", s.row(2, 0));
        for (int side : Check.beyond(-1, 1)) {
            check.bad("row(2, " + side + ")", s.row(2, side));
        }
    }
}
