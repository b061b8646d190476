/** Promises 6 and 7: mark, drop. */
public final class MarksTest {
    private static final int FULL = Check.FULL;
    private static final Check check = new Check();

    public static void main(String[] args) {
        check.runAll(MarksTest.class);
    }

    private static StackMarks noteAndRest() {
        StackMarks s = new StackMarks();
        s.note(100, 0, 0, 0, 0);
        s.rest(200, 0, 0);
        return s;
    }

    private static StackMarks withMarks(int many) {
        StackMarks s = noteAndRest();
        for (int i = 0; i < many; i++) {
            check.due("mark " + i, s.mark(0, i % 10, 3, 2), i);
        }
        return s;
    }

    /** "MARKS .. are numbered as they come" */
    private static void promise6NumberedAsTheyCome() {
        StackMarks s = noteAndRest();
        check.due("of the rest", s.mark(1, 9, 7, 3), 0);
        check.due("of the note", s.mark(0, 0, 9, 4), 1);
        check.due("of the rest again", s.mark(1, 5, 5, 5), 2);
        check.due("count(1)", s.count(1), 3);
        s.place();
        check.due("left of 0", s.at(0, 0), 197);
        check.due("right of 0", s.at(0, 1), 204);
        check.due("height of 0", s.at(0, 4) - s.at(0, 3), 3);
        check.due("left of 1", s.at(1, 0), 96);
        check.due("right of 1", s.at(1, 1), 105);
        check.due("height of 1", s.at(1, 4) - s.at(1, 3), 4);
    }

    /** "several of one KIND may be at an ITEM" */
    private static void promise6SeveralOfOneKindAtAnItem() {
        StackMarks s = noteAndRest();
        for (int i = 0; i < 3; i++) {
            check.due("mark " + i, s.mark(0, 4, 5, 5), i);
        }
        check.due("item(0, 6)", s.item(0, 6), 3);
    }

    /** "MARKS, 80 at most"; "FULL" */
    private static void promise6EightyAtMost() {
        StackMarks s = withMarks(79);
        check.due("the 80th", s.mark(1, 9, 3, 2), 79);
        check.due("an 81st", s.mark(1, 9, 3, 2), FULL);
        check.due("count(1)", s.count(1), 80);
        check.due("item(1, 6)", s.item(1, 6), 1);
    }

    private static void promise6AllEightyArePlaced() {
        StackMarks s = withMarks(80);
        check.due("place()", s.place(), 0);
        // 80 marks of height 2, each 2 beyond the one ahead of it
        check.due("the last one's OUTER height", s.at(79, 4), 18 + 80 * 4);
        check.due("the last one's turn", s.at(79, 6), 79);
    }

    /** "BAD (.. or there is no such thing)" */
    private static void promise6ThereIsNoSuchItem() {
        StackMarks s = noteAndRest();
        for (int item : Check.beyond(0, 1)) {
            check.bad("of item " + item, s.mark(item, 0, 1, 1));
        }
        check.bad("of item 39", s.mark(39, 0, 1, 1));
        check.bad("of item 40", s.mark(40, 0, 1, 1));
        check.due("count(1)", s.count(1), 0);
    }

    /** "KINDS 0 .. 9" */
    private static void promise6KindFrom0To9() {
        StackMarks s = noteAndRest();
        for (int kind = 0; kind <= 9; kind++) {
            check.due("of kind " + kind, s.mark(0, kind, 1, 1), kind);
        }
        for (int kind : Check.beyond(0, 9)) {
            check.bad("of kind " + kind, s.mark(0, kind, 1, 1));
        }
    }

    /** "a WIDTH (1 .. 400)" */
    private static void promise6WidthFrom1To400() {
        StackMarks s = noteAndRest();
        check.due("width 1", s.mark(0, 0, 1, 1), 0);
        check.due("width 400", s.mark(0, 0, 400, 1), 1);
        for (int width : Check.beyond(1, 400)) {
            check.bad("width " + width, s.mark(0, 0, width, 1));
        }
        s.place();
        check.due("at 0 from left to right", s.at(0, 1) - s.at(0, 0), 1);
        check.due("at 1 from left to right", s.at(1, 1) - s.at(1, 0), 400);
    }

    /** "a HEIGHT (1 .. 40)" */
    private static void promise6HeightFrom1To40() {
        StackMarks s = noteAndRest();
        check.due("height 1", s.mark(0, 0, 1, 1), 0);
        check.due("height 40", s.mark(0, 0, 1, 40), 1);
        for (int height : Check.beyond(1, 40)) {
            check.bad("height " + height, s.mark(0, 0, 1, height));
        }
        s.place();
        check.due("at 0 from INNER to OUTER", s.at(0, 4) - s.at(0, 3), 1);
        check.due("at 1 from INNER to OUTER", s.at(1, 4) - s.at(1, 3), 40);
    }

    private static void promise6TheFirstGoodOneBehindBadOnes() {
        StackMarks s = noteAndRest();
        check.bad("width 0", s.mark(0, 0, 0, 1));
        check.bad("height 0", s.mark(0, 0, 1, 0));
        check.due("a good one", s.mark(0, 0, 1, 1), 0);
    }

    /** "A MARK is no more .. : 1." */
    private static void promise7IsNoMore() {
        StackMarks s = withMarks(2);
        check.due("drop(0)", s.drop(0), 1);
        check.due("count(1)", s.count(1), 1);
        check.due("item(0, 6)", s.item(0, 6), 1);
        s.place();
        check.due("at(1, 6): it is the first now", s.at(1, 6), 0);
        check.due("order(0, -1, 0)", s.order(0, -1, 0), 1);
        check.due("order(0, -1, 1)", s.order(0, -1, 1), Check.NONE);
    }

    /** "its number is not given again" */
    private static void promise7NumberIsNotGivenAgain() {
        StackMarks s = withMarks(2);
        s.drop(0);
        check.due("behind drop(0)", s.mark(0, 2, 3, 2), 2);
        s.drop(2);
        check.due("behind drop of the last one", s.mark(0, 2, 3, 2), 3);
        s.drop(1);
        s.drop(3);
        check.due("behind drop of all", s.mark(0, 2, 3, 2), 4);
    }

    /** "and counts for the 80" */
    private static void promise7CountsForTheEighty() {
        StackMarks s = withMarks(79);
        s.drop(40);
        check.due("the 80th", s.mark(0, 0, 3, 2), 79);
        s.drop(79);
        check.due("an 81st", s.mark(0, 0, 3, 2), FULL);
        check.due("count(1)", s.count(1), 78);
    }

    private static void promise7AllEightyAreDropped() {
        StackMarks s = withMarks(80);
        for (int i = 0; i < 80; i++) {
            check.due("drop(" + i + ")", s.drop(i), 1);
        }
        check.due("count(1)", s.count(1), 0);
        check.due("an 81st", s.mark(0, 0, 3, 2), FULL);
        check.due("place()", s.place(), 0);
        check.due("count(5)", s.count(5), 0);
    }

    /** "BAD: there is none such" */
    private static void promise7ThereIsNoneSuch() {
        StackMarks s = withMarks(2);
        for (int mark : Check.beyond(0, 1)) {
            check.bad("drop(" + mark + ")", s.drop(mark));
        }
        check.bad("drop(79)", s.drop(79));
        check.bad("drop(80)", s.drop(80));
        check.due("count(1)", s.count(1), 2);
        check.bad("drop(80) of 80", withMarks(80).drop(80));
    }

    /** "(any more)" */
    private static void promise7ThereIsNoneSuchAnyMore() {
        StackMarks s = withMarks(2);
        s.drop(0);
        check.bad("drop(0) again", s.drop(0));
        check.bad("wide(0)", s.wide(0));
        check.bad("push(0)", s.push(0));
        s.place();
        check.bad("at(0, 0)", s.at(0, 0));
        check.bad("meets(0, 1)", s.meets(0, 1));
        check.bad("meets(1, 0)", s.meets(1, 0));
        check.due("count(1)", s.count(1), 1);
    }

    private static void promise7TakesNoRoomAnyMore() {
        StackMarks s = noteAndRest();
        s.mark(0, 0, 3, 10);
        s.mark(0, 1, 3, 2);
        s.place();
        check.due("INNER of 1 beyond 0", s.at(1, 3), 32);
        s.drop(0);
        s.place();
        check.due("INNER of 1 without 0", s.at(1, 3), 20);
        check.due("skyline(100, -1)", s.skyline(100, -1), 22);
        check.due("count(5)", s.count(5), 22);
    }

    private static void promise7TakesNoRoomInItsRow() {
        StackMarks s = noteAndRest();
        s.set(0, 4, 1);
        s.mark(0, 0, 3, 10);
        s.mark(0, 0, 3, 2);
        check.due("place()", s.place(), 1);
        s.drop(0);
        check.due("place() without 0", s.place(), 0);
        check.due("at(1, 5)", s.at(1, 5), 1);
        check.due("row(0, -1)", s.row(0, -1), 20);
    }
}
