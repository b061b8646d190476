/** Promise 19: count. */
public final class CountTest {
    private static final Check check = new Check();

    public static void main(String[] args) {
        check.runAll(CountTest.class);
    }

    private static StackMarks twoNotes() {
        StackMarks s = new StackMarks();
        s.note(100, -60, 60, 0, 1);
        s.note(300, 0, 0, 0, 1);
        s.set(0, 1, 2);
        return s;
    }

    /** "0 ITEMS" */
    private static void promise19Items() {
        StackMarks s = new StackMarks();
        check.due("count(0) of none", s.count(0), 0);
        for (int i = 0; i < 40; i++) {
            int number = i % 2 == 0 ? s.note(i, 0, 0, 0, 0) : s.rest(i, 0, 0);
            check.due("count(0)", s.count(0), number + 1);
        }
        s.note(1000, 0, 0, 0, 0);
        check.due("count(0) behind FULL", s.count(0), 40);
    }

    /** "1 MARKS that are there" */
    private static void promise19MarksThatAreThere() {
        StackMarks s = twoNotes();
        check.due("count(1) of none", s.count(1), 0);
        for (int i = 0; i < 80; i++) {
            s.mark(0, 0, 1, 1);
        }
        check.due("count(1)", s.count(1), 80);
        s.drop(0);
        s.drop(79);
        check.due("count(1) behind two drops", s.count(1), 78);
        s.mark(0, 0, 1, 1);
        check.due("count(1) behind FULL", s.count(1), 78);
    }

    /** "2 SLURS" */
    private static void promise19Slurs() {
        StackMarks s = twoNotes();
        check.due("count(2) of none", s.count(2), 0);
        for (int i = 0; i < 10; i++) {
            s.slur(0, 1, 1, 1);
            check.due("count(2)", s.count(2), i + 1);
        }
        s.slur(0, 1, 1, 1);
        check.due("count(2) behind FULL", s.count(2), 10);
    }

    /** "3 whether all is PLACED (1, 0)" */
    private static void promise19WhetherAllIsPlaced() {
        StackMarks s = twoNotes();
        check.due("count(3) ahead of place()", s.count(3), 0);
        s.place();
        check.due("count(3) behind place()", s.count(3), 1);
        s.lift(0, 0);
        check.due("count(3) behind lift()", s.count(3), 0);
    }

    /** "4 the greatest outer height of MARKS .. above" */
    private static void promise19GreatestOfMarksAbove() {
        StackMarks s = twoNotes();
        s.mark(1, 0, 4, 7);
        s.mark(0, 0, 4, 5);
        s.place();
        check.due("count(4)", s.count(4), 95);
        check.due("count(5)", s.count(5), 0);
        s.drop(1);
        s.place();
        check.due("count(4) behind drop(1)", s.count(4), 37);
    }

    /** "5 below" */
    private static void promise19GreatestOfMarksBelow() {
        StackMarks s = twoNotes();
        s.mark(0, 1, 4, 5);
        s.mark(1, 1, 4, 9);
        s.place();
        check.due("count(4)", s.count(4), 0);
        check.due("count(5)", s.count(5), 71);
        s.drop(0);
        s.place();
        check.due("count(5) behind drop(0)", s.count(5), 29);
    }

    /** "the greatest outer height of .. SLURS": without the 3 beyond it */
    private static void promise19GreatestOfSlurs() {
        StackMarks s = twoNotes();
        s.slur(0, 1, 1, 6);
        s.place();
        check.due("count(4)", s.count(4), 88 + 3 + 6);
        check.due("count(5)", s.count(5), 0);
        s.slur(0, 1, -1, 6);
        s.place();
        check.due("count(4) with one below", s.count(4), 88 + 3 + 6);
        check.due("count(5) with one below", s.count(5), 64 + 3 + 6);
    }

    /** "of MARKS and SLURS": whichever reaches further out */
    private static void promise19MarksAndSlursTogether() {
        StackMarks s = twoNotes();
        s.note(500, 0, 0, 0, 1);
        s.slur(1, 2, 1, 6);
        s.mark(0, 0, 4, 1);
        s.place();
        check.due("count(4): the mark", s.count(4), 91);
        s.slur(0, 1, 1, 6);
        s.place();
        check.due("count(4): the mark beyond the slur", s.count(4), 88 + 12 + 3);
        s.drop(0);
        s.place();
        check.due("count(4): the slur", s.count(4), 97);
    }

    /** "(0 without any)" */
    private static void promise19ZeroWithoutAny() {
        StackMarks s = new StackMarks();
        s.place();
        check.due("count(4) of nothing", s.count(4), 0);
        check.due("count(5) of nothing", s.count(5), 0);
        StackMarks notes = twoNotes();
        notes.place();
        check.due("count(4) of notes alone", notes.count(4), 0);
        check.due("count(5) of notes alone", notes.count(5), 0);
        notes.mark(0, 0, 1, 1);
        notes.drop(0);
        notes.place();
        check.due("count(4) of a dropped mark", notes.count(4), 0);
    }

    /** "0 ITEMS, .. 5 below .. BAD." */
    private static void promise19WhatFrom0To5() {
        StackMarks s = twoNotes();
        s.place();
        for (int what : Check.beyond(0, 5)) {
            check.bad("count(" + what + ")", s.count(what));
        }
    }

    /** "IllegalStateException (of 4, 5)": not of 0 to 3 */
    private static void promise19ThrowsOf4And5Alone() {
        StackMarks s = twoNotes();
        int[] due = {2, 0, 0, 0};
        for (int what = 0; what <= 3; what++) {
            check.due("count(" + what + ")", s.count(what), due[what]);
        }
        check.throwsState("count(4)", () -> s.count(4));
        check.throwsState("count(5)", () -> s.count(5));
    }
}
