/** Promises 14 and 15: order, meets. */
public final class OrderTest {
    private static final int NONE = Check.NONE;
    private static final Check check = new Check();

    public static void main(String[] args) {
        check.runAll(OrderTest.class);
    }

    /** Item 0 has 5, 1, 4, 0 below and 2 above; item 1 has 3 below; item 2 has none. */
    private static StackMarks stacked() {
        StackMarks s = new StackMarks();
        s.note(100, 0, 0, 0, 0);
        s.note(200, 0, 0, 0, 0);
        s.rest(300, 0, 0);
        s.set(5, 1, 2);
        s.mark(0, 4, 4, 4);
        s.mark(0, 1, 4, 4);
        s.mark(0, 5, 4, 4);
        s.mark(1, 0, 4, 4);
        s.mark(0, 1, 4, 4);
        s.mark(0, 0, 4, 4);
        s.place();
        return s;
    }

    private static void orderIs(StackMarks s, int item, int side, int... due) {
        for (int k = 0; k < due.length; k++) {
            check.due("order(" + item + ", " + side + ", " + k + ")", s.order(item, side, k), due[k]);
        }
    }

    /** "The k-th MARK of an ITEM on a side from the head outward" */
    private static void promise14FromTheHeadOutward() {
        orderIs(stacked(), 0, -1, 5, 1, 4, 0);
    }

    /** "by INNER height": not by turn, ORDER or number */
    private static void promise14ByInnerHeight() {
        StackMarks s = new StackMarks();
        s.note(100, 0, 0, 0, 0);
        s.set(7, 5, 1);
        s.set(0, 0, 9);
        s.mark(0, 7, 4, 4); // OUTER
        s.mark(0, 0, 4, 4);
        s.mark(0, 8, 4, 4);
        s.place();
        orderIs(s, 0, -1, 2, 1, 0, NONE);
    }

    /** "by INNER height": marks that lie right on one another, the nearer one with the greater number */
    private static void promise14RightOnOneAnother() {
        StackMarks s = new StackMarks();
        s.note(100, 0, 0, 0, 0);
        s.set(0, 3, 0);
        s.set(1, 3, 0);
        s.mark(0, 1, 4, 4);
        s.mark(0, 0, 4, 4);
        s.mark(0, 1, 4, 4);
        s.place();
        orderIs(s, 0, -1, 1, 0, 2, NONE);
    }

    /** "NONE": behind the last one */
    private static void promise14NoneBehindTheLast() {
        StackMarks s = stacked();
        orderIs(s, 0, -1, 5, 1, 4, 0, NONE, NONE);
        orderIs(s, 0, 1, 2, NONE);
        orderIs(s, 1, -1, 3, NONE);
        check.due("order(0, -1, MAX)", s.order(0, -1, Integer.MAX_VALUE), NONE);
    }

    /** "NONE": there is no mark on that side, or at that item */
    private static void promise14NoneWithoutAMark() {
        StackMarks s = stacked();
        orderIs(s, 1, 1, NONE);
        orderIs(s, 2, 1, NONE);
        orderIs(s, 2, -1, NONE);
    }

    /** "(k below 0, too)" */
    private static void promise14NoneForKBelow0() {
        StackMarks s = stacked();
        for (int k : new int[] {-1, -2, Integer.MIN_VALUE}) {
            check.due("order(0, -1, " + k + ")", s.order(0, -1, k), NONE);
            check.due("order(2, 1, " + k + ")", s.order(2, 1, k), NONE);
        }
    }

    private static void promise14EightyMarksAtOneItem() {
        StackMarks s = new StackMarks();
        s.note(100, 0, 0, 0, 0);
        for (int i = 0; i < 80; i++) {
            s.mark(0, 3, 1, 1);
        }
        s.place();
        for (int k = 0; k < 80; k++) {
            check.due("order(0, -1, " + k + ")", s.order(0, -1, k), k);
        }
        check.due("order(0, -1, 80)", s.order(0, -1, 80), NONE);
    }

    /** "BAD (.. or there is no such thing)" */
    private static void promise14ThereIsNoSuchItem() {
        StackMarks s = stacked();
        for (int item : Check.beyond(0, 2)) {
            check.bad("order(" + item + ", 1, 0)", s.order(item, 1, 0));
            check.bad("order(" + item + ", 1, -1)", s.order(item, 1, -1));
        }
        check.bad("order(40, 1, 0)", s.order(40, 1, 0));
    }

    /** "on a side" */
    private static void promise14SideIs1OrMinus1() {
        StackMarks s = stacked();
        check.bad("order(0, 0, 0)", s.order(0, 0, 0));
        check.bad("order(0, 0, -1)", s.order(0, 0, -1));
        for (int side : Check.beyond(-1, 1)) {
            check.bad("order(0, " + side + ", 0)", s.order(0, side, 0));
        }
    }

    private static void meetsIs(StackMarks s, int a, int b, int due) {
        check.due("meets(" + a + ", " + b + ")", s.meets(a, b), due);
        check.due("meets(" + b + ", " + a + ")", s.meets(b, a), due);
    }

    /** "height within (INNER up to ahead of OUTER)": one lies right on the other */
    private static void promise15OneRightOnTheOther() {
        StackMarks s = new StackMarks();
        s.note(100, 0, 0, 0, 0);
        s.set(0, 3, 0);
        s.mark(0, 0, 4, 4);
        s.mark(0, 0, 4, 4);
        s.place();
        check.due("INNER of 1 is OUTER of 0", s.at(1, 3), s.at(0, 4));
        meetsIs(s, 0, 1, 0);
    }

    /** "have a common x": at one height, one begins right behind the other */
    private static void promise15OneRightBesideTheOther() {
        StackMarks s = new StackMarks();
        s.note(100, 0, 0, 0, 0);
        s.note(110, 0, 0, 0, 0);
        s.set(0, 2, 1);
        s.set(0, 4, 1);
        s.mark(0, 0, 10, 4);
        s.mark(1, 0, 10, 4);
        s.place();
        check.due("one height", s.at(0, 3), s.at(1, 3));
        meetsIs(s, 0, 1, 0);
    }

    /** "have a common .. side" */
    private static void promise15OnTheOtherSide() {
        StackMarks s = new StackMarks();
        s.note(100, 0, 0, 0, 0);
        s.set(1, 1, 2);
        s.mark(0, 0, 4, 4);
        s.mark(0, 1, 4, 4);
        s.place();
        check.due("one height outward", s.at(0, 3), s.at(1, 3));
        meetsIs(s, 0, 1, 0);
    }

    /** "skylines are kept, so that no two marks meet" */
    private static void promise15NoTwoMarksMeet() {
        StackMarks s = new StackMarks();
        s.set(3, 4, 1);
        for (int i = 0; i < 5; i++) {
            s.note(100 + i * 7, i * 9, i * 9, 0, i % 3 - 1);
            s.mark(i, 3, 15, 6);
            s.mark(i, i, 9, 3);
            s.set(i, 3, 0);
        }
        s.place();
        for (int a = 0; a < 10; a++) {
            for (int b = a + 1; b < 10; b++) {
                meetsIs(s, a, b, 0);
            }
        }
    }

    /** "BAD (also one and the same)" */
    private static void promise15OneAndTheSame() {
        StackMarks s = stacked();
        for (int mark = 0; mark < 6; mark++) {
            check.bad("meets(" + mark + ", " + mark + ")", s.meets(mark, mark));
        }
    }

    /** "BAD (.. or there is no such thing)" */
    private static void promise15ThereIsNoSuchMark() {
        StackMarks s = stacked();
        for (int mark : Check.beyond(0, 5)) {
            check.bad("meets(" + mark + ", 0)", s.meets(mark, 0));
            check.bad("meets(0, " + mark + ")", s.meets(0, mark));
        }
        s.drop(2);
        s.place();
        check.bad("meets(2, 0), dropped", s.meets(2, 0));
        check.bad("meets(0, 2), dropped", s.meets(0, 2));
    }
}
