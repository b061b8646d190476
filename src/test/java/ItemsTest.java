/** Promises 1 to 4 and 18: a new object, note, rest, lift, item. */
public final class ItemsTest {
    private static final int BAD = Check.BAD, FULL = Check.FULL;
    private static final Check check = new Check();

    public static void main(String[] args) {
        promise1NewObject();
        promise1ObjectsAreApart();
        promise2Note();
        promise2NoteBounds();
        promise2NoteBad();
        promise2NoteFull();
        promise3Rest();
        promise3RestBad();
        promise3RestFull();
        promise4Lift();
        promise4LiftBad();
        promise4LiftTakesMarksWithIt();
        promise18ItemBad();
        promise18ItemCountsMarks();
        check.end();
    }

    private static void promise1NewObject() {
        StackMarks s = new StackMarks();
        for (int what = 0; what <= 3; what++) {
            check.due("new: count(" + what + ")", s.count(what), 0);
        }
        check.due("new: item(0, 0)", s.item(0, 0), BAD);
        check.due("new: wide(0)", s.wide(0), BAD);
        check.due("new: drop(0)", s.drop(0), BAD);
        check.due("new: slurAt(0, 0)", s.slurAt(0, 0), BAD);
        check.throwsState("new: skyline(0, 1)", () -> s.skyline(0, 1));
        check.due("new: place()", s.place(), 0);
        check.due("new: skyline(0, 1)", s.skyline(0, 1), 18);
        check.due("new: skyline(101000, -1)", s.skyline(101000, -1), 18);
        check.due("new: count(4)", s.count(4), 0);
        check.due("new: count(5)", s.count(5), 0);
    }

    private static void promise1ObjectsAreApart() {
        StackMarks one = new StackMarks();
        one.note(5, 0, 0, 0, 0);
        one.mark(0, 3, 4, 5);
        one.set(3, 3, 9);
        StackMarks other = new StackMarks();
        check.due("other: count(0)", other.count(0), 0);
        check.due("other: count(1)", other.count(1), 0);
        check.due("other: set(3, 3, 1)", other.set(3, 3, 1), 2);
    }

    private static void promise2Note() {
        StackMarks s = new StackMarks();
        check.due("first note", s.note(70, -3, 12, 1, -1), 0);
        check.due("a note to the left", s.note(7, 5, 5, 0, 1), 1);
        check.due("a note between", s.note(30, -9, -8, 0, 0), 2);
        itemIs(s, 0, 70, -3, 12, 1, -1, 0);
        itemIs(s, 1, 7, 5, 5, 0, 1, 0);
        itemIs(s, 2, 30, -9, -8, 0, 0, 0);
        check.due("count(0)", s.count(0), 3);
    }

    private static void promise2NoteBounds() {
        StackMarks s = new StackMarks();
        check.due("note at 0", s.note(0, -60, 60, 0, 1), 0);
        check.due("note at 100000", s.note(100000, 60, 60, 1, -1), 1);
        check.due("note at 1", s.note(1, -60, -60, 1, 0), 2);
        itemIs(s, 0, 0, -60, 60, 0, 1, 0);
        itemIs(s, 1, 100000, 60, 60, 1, -1, 0);
    }

    private static void promise2NoteBad() {
        StackMarks s = new StackMarks();
        s.note(10, 0, 0, 0, 0);
        s.rest(20, 0, 0);
        int[][] bad = {
            {-1, 0, 0, 0, 0}, {100001, 0, 0, 0, 0}, {Integer.MIN_VALUE, 0, 0, 0, 0},
            {Integer.MAX_VALUE, 0, 0, 0, 0}, {5, -61, 0, 0, 0}, {5, 0, 61, 0, 0},
            {5, 61, 61, 0, 0}, {5, -61, -61, 0, 0}, {5, 1, 0, 0, 0}, {5, 60, -60, 0, 0},
            {5, 0, 0, -1, 0}, {5, 0, 0, 2, 0}, {5, 0, 0, 0, -2}, {5, 0, 0, 0, 2},
            {10, 0, 0, 0, 0}, {20, 0, 0, 0, 0}
        };
        for (int[] b : bad) {
            check.due("note(" + b[0] + ", " + b[1] + ", " + b[2] + ", " + b[3] + ", " + b[4] + ")",
                    s.note(b[0], b[1], b[2], b[3], b[4]), BAD);
        }
        check.due("count(0)", s.count(0), 2);
        check.due("the next good one", s.note(5, 0, 0, 0, 0), 2);
    }

    private static StackMarks fullOfItems() {
        StackMarks s = new StackMarks();
        for (int i = 0; i < 40; i++) {
            int got = i % 2 == 0 ? s.note(i * 3, 0, 0, 0, 0) : s.rest(i * 3, 0, 0);
            check.due("item " + i, got, i);
        }
        return s;
    }

    private static void promise2NoteFull() {
        StackMarks s = fullOfItems();
        check.due("a 41st note", s.note(1000, 0, 0, 0, 0), FULL);
        check.due("a 41st note that is BAD, too", s.note(1000, 0, 0, 2, 0), BAD);
        check.due("a 41st note at an item's x", s.note(3, 0, 0, 0, 0), BAD);
        check.due("count(0)", s.count(0), 40);
        check.due("item(39, 0)", s.item(39, 0), 117);
        check.due("item(40, 0)", s.item(40, 0), BAD);
    }

    private static void promise3Rest() {
        StackMarks s = new StackMarks();
        check.due("rest(100000, 60, 1)", s.rest(100000, 60, 1), 0);
        check.due("rest(0, -60, 0)", s.rest(0, -60, 0), 1);
        check.due("rest(50, 7, 0)", s.rest(50, 7, 0), 2);
        itemIs(s, 0, 100000, 60, 60, 1, 0, 1);
        itemIs(s, 1, 0, -60, -60, 0, 0, 1);
        itemIs(s, 2, 50, 7, 7, 0, 0, 1);
    }

    private static void promise3RestBad() {
        StackMarks s = new StackMarks();
        s.note(10, 0, 0, 0, 0);
        s.rest(20, 0, 0);
        int[][] bad = {
            {-1, 0, 0}, {100001, 0, 0}, {5, -61, 0}, {5, 61, 0}, {5, 0, -1}, {5, 0, 2},
            {10, 0, 0}, {20, 0, 0}, {Integer.MIN_VALUE, 0, 0}, {5, Integer.MAX_VALUE, 0}
        };
        for (int[] b : bad) {
            check.due("rest(" + b[0] + ", " + b[1] + ", " + b[2] + ")", s.rest(b[0], b[1], b[2]), BAD);
        }
        check.due("count(0)", s.count(0), 2);
    }

    private static void promise3RestFull() {
        StackMarks s = fullOfItems();
        check.due("a 41st rest", s.rest(1000, 0, 0), FULL);
        check.due("a 41st rest that is BAD, too", s.rest(1000, 61, 0), BAD);
        check.due("a 41st rest at an item's x", s.rest(0, 0, 0), BAD);
    }

    private static void promise4Lift() {
        StackMarks s = new StackMarks();
        s.note(10, -5, 20, 0, 1);
        s.rest(30, 0, 0);
        check.due("lift(0, 40)", s.lift(0, 40), 1);
        itemIs(s, 0, 10, 35, 60, 0, 1, 0);
        check.due("lift(0, -95)", s.lift(0, -95), 1);
        itemIs(s, 0, 10, -60, -35, 0, 1, 0);
        check.due("lift(1, 60)", s.lift(1, 60), 1);
        check.due("lift(1, -120)", s.lift(1, -120), 1);
        check.due("lift(1, 120)", s.lift(1, 120), 1);
        check.due("lift(1, 0)", s.lift(1, 0), 1);
        itemIs(s, 1, 30, 60, 60, 0, 0, 1);
    }

    private static void promise4LiftBad() {
        StackMarks s = new StackMarks();
        s.note(10, -5, 20, 0, 1);
        s.rest(30, 0, 0);
        int[][] bad = {
            {0, 41}, {0, -56}, {1, 61}, {1, -61}, {-1, 0}, {2, 0}, {0, 121}, {0, -121},
            {0, Integer.MAX_VALUE}, {0, Integer.MIN_VALUE}, {1, Integer.MIN_VALUE},
            {Integer.MIN_VALUE, 0}, {Integer.MAX_VALUE, 0}
        };
        for (int[] b : bad) {
            check.due("lift(" + b[0] + ", " + b[1] + ")", s.lift(b[0], b[1]), BAD);
        }
        itemIs(s, 0, 10, -5, 20, 0, 1, 0);
        itemIs(s, 1, 30, 0, 0, 0, 0, 1);
    }

    private static void promise4LiftTakesMarksWithIt() {
        StackMarks s = new StackMarks();
        s.note(10, 0, 0, 0, 1);
        s.set(0, 1, 0);
        s.mark(0, 0, 4, 5);
        s.place();
        check.due("INNER at first", s.at(0, 3), 30);
        s.lift(0, 11);
        s.place();
        check.due("INNER behind lift(0, 11)", s.at(0, 3), 41);
        check.due("OUTER behind lift(0, 11)", s.at(0, 4), 46);
    }

    private static void promise18ItemBad() {
        StackMarks s = new StackMarks();
        s.note(10, 0, 0, 0, 1);
        int[][] bad = {
            {-1, 0}, {1, 0}, {0, -1}, {0, 7}, {40, 0}, {Integer.MIN_VALUE, 0},
            {Integer.MAX_VALUE, 6}, {0, Integer.MIN_VALUE}, {0, Integer.MAX_VALUE}
        };
        for (int[] b : bad) {
            check.due("item(" + b[0] + ", " + b[1] + ")", s.item(b[0], b[1]), BAD);
        }
    }

    private static void promise18ItemCountsMarks() {
        StackMarks s = new StackMarks();
        s.note(10, 0, 0, 0, 1);
        s.rest(20, 0, 0);
        check.due("item(0, 6) without marks", s.item(0, 6), 0);
        s.mark(0, 0, 1, 1);
        s.mark(0, 0, 1, 1);
        s.mark(1, 5, 1, 1);
        check.due("item(0, 6)", s.item(0, 6), 2);
        check.due("item(1, 6)", s.item(1, 6), 1);
        s.drop(0);
        check.due("item(0, 6) behind drop(0)", s.item(0, 6), 1);
        check.due("item(1, 6) behind drop(0)", s.item(1, 6), 1);
    }

    private static void itemIs(StackMarks s, int item, int... due) {
        for (int what = 0; what < due.length; what++) {
            check.due("item(" + item + ", " + what + ")", s.item(item, what), due[what]);
        }
    }
}
