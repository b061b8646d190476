/** Promise 5: set. */
public final class KindsTest {
    private static final int[] AT_FIRST = {0, 1, 0, 2, 0, 0}, MOST = {9, 3, 1, 20, 1, 1};
    private static final Check check = new Check();

    public static void main(String[] args) {
        check.runAll(KindsTest.class);
    }

    private static String call(int kind, int what, int v) {
        return "set(" + kind + ", " + what + ", " + v + ")";
    }

    private static void isAtFirst(int what, int due) {
        StackMarks s = new StackMarks();
        for (int kind = 0; kind <= 9; kind++) {
            check.due(call(kind, what, 0), s.set(kind, what, 0), what == 0 ? kind : due);
        }
    }

    /** Every value from 0 to the most is taken, none beyond, and those beyond leave the last one. */
    private static void valuesAreUpTo(int what, int most) {
        StackMarks s = new StackMarks();
        s.set(3, what, 0);
        for (int v = 0; v <= most; v++) {
            check.due(call(3, what, v), s.set(3, what, v), Math.max(0, v - 1));
        }
        for (int v : Check.beyond(0, most)) {
            check.bad(call(3, what, v), s.set(3, what, v));
        }
        check.due("behind BAD " + call(3, what, 0), s.set(3, what, 0), most);
    }

    /** "a kind's own number at first" */
    private static void promise5OrderAtFirst() {
        isAtFirst(0, 0);
    }

    /** "a SIDE (..; 1 at first)" */
    private static void promise5SideAtFirst() {
        isAtFirst(1, 1);
    }

    /** "a LIE (..; 0 at first)" */
    private static void promise5LieAtFirst() {
        isAtFirst(2, 0);
    }

    /** "a GAP (0 .. 20; 2 at first)" */
    private static void promise5GapAtFirst() {
        isAtFirst(3, 2);
    }

    /** "whether it is in a ROW (not at first)" */
    private static void promise5RowAtFirst() {
        isAtFirst(4, 0);
    }

    /** "whether it is OUTER (not at first)" */
    private static void promise5OuterAtFirst() {
        isAtFirst(5, 0);
    }

    /** "0 ORDER (0 .. 9)" */
    private static void promise5OrderFrom0To9() {
        valuesAreUpTo(0, 9);
    }

    /** "1 SIDE (0 .. 3)" */
    private static void promise5SideFrom0To3() {
        valuesAreUpTo(1, 3);
    }

    /** "2 LIE (0, 1)" */
    private static void promise5LieIs0Or1() {
        valuesAreUpTo(2, 1);
    }

    /** "3 GAP (0 .. 20)" */
    private static void promise5GapFrom0To20() {
        valuesAreUpTo(3, 20);
    }

    /** "4 whether it is in a ROW" */
    private static void promise5RowIs1Or0() {
        valuesAreUpTo(4, 1);
    }

    /** "5 OUTER (1, 0)" */
    private static void promise5OuterIs1Or0() {
        valuesAreUpTo(5, 1);
    }

    /** "KINDS 0 .. 9" */
    private static void promise5KindFrom0To9() {
        StackMarks s = new StackMarks();
        for (int kind : Check.beyond(0, 9)) {
            for (int what = 0; what <= 5; what++) {
                check.bad(call(kind, what, 0), s.set(kind, what, 0));
            }
        }
        check.due(call(0, 0, 9), s.set(0, 0, 9), 0);
        check.due(call(9, 0, 0), s.set(9, 0, 0), 9);
    }

    /** "what = 0 ORDER .. 5 OUTER" */
    private static void promise5WhatFrom0To5() {
        StackMarks s = new StackMarks();
        for (int what : Check.beyond(0, 5)) {
            for (int kind = 0; kind <= 9; kind++) {
                check.bad(call(kind, what, 0), s.set(kind, what, 0));
            }
        }
    }

    /** "becomes v: what it was" */
    private static void promise5AnswersWhatItWas() {
        StackMarks s = new StackMarks();
        check.due(call(4, 3, 7), s.set(4, 3, 7), 2);
        check.due(call(4, 3, 20), s.set(4, 3, 20), 7);
        check.due("the same once more", s.set(4, 3, 20), 20);
        check.due(call(4, 3, 0), s.set(4, 3, 0), 20);
    }

    private static void promise5NothingElseChanges() {
        StackMarks s = new StackMarks();
        for (int what = 0; what <= 5; what++) {
            s.set(4, what, MOST[what]);
        }
        for (int kind = 0; kind <= 9; kind++) {
            for (int what = 0; what <= 5; what++) {
                int first = what == 0 ? kind : AT_FIRST[what];
                int due = kind == 4 ? MOST[what] : first;
                check.due(call(kind, what, 0), s.set(kind, what, 0), due);
            }
        }
    }
}
