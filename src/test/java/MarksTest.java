/** Promises 5 to 7: set, mark, drop. */
public final class MarksTest {
    private static final int BAD = Check.BAD, FULL = Check.FULL;
    private static final int[] MOST = {9, 3, 1, 20, 1, 1};
    private static final Check check = new Check();

    public static void main(String[] args) {
        promise5SetAtFirst();
        promise5SetBounds();
        promise5SetBad();
        promise6Mark();
        promise6MarkBad();
        promise6MarkFull();
        promise7Drop();
        promise7DropBad();
        promise7DroppedMarksCountForTheEighty();
        promise7DroppedMarksMakeNoRoom();
        check.end();
    }

    private static void promise5SetAtFirst() {
        StackMarks s = new StackMarks();
        int[] atFirst = {0, 1, 0, 2, 0, 0};
        for (int kind = 0; kind <= 9; kind++) {
            for (int what = 0; what <= 5; what++) {
                int due = what == 0 ? kind : atFirst[what];
                check.due("set(" + kind + ", " + what + ", 0) at first", s.set(kind, what, 0), due);
            }
        }
    }

    private static void promise5SetBounds() {
        StackMarks s = new StackMarks();
        for (int kind = 0; kind <= 9; kind += 9) {
            for (int what = 0; what <= 5; what++) {
                s.set(kind, what, 0);
                String call = "set(" + kind + ", " + what + ", .)";
                check.due(call + " behind 0", s.set(kind, what, MOST[what]), 0);
                check.due(call + " behind the most", s.set(kind, what, 0), MOST[what]);
            }
        }
        check.due("a kind that none of these named", s.set(4, 0, 4), 4);
    }

    private static void promise5SetBad() {
        StackMarks s = new StackMarks();
        for (int what = 0; what <= 5; what++) {
            check.due("set(3, " + what + ", -1)", s.set(3, what, -1), BAD);
            check.due("set(3, " + what + ", most + 1)", s.set(3, what, MOST[what] + 1), BAD);
            check.due("set(-1, " + what + ", 0)", s.set(-1, what, 0), BAD);
            check.due("set(10, " + what + ", 0)", s.set(10, what, 0), BAD);
        }
        check.due("set(3, -1, 0)", s.set(3, -1, 0), BAD);
        check.due("set(3, 6, 0)", s.set(3, 6, 0), BAD);
        check.due("set(MIN, 0, 0)", s.set(Integer.MIN_VALUE, 0, 0), BAD);
        check.due("set(0, MAX, 0)", s.set(0, Integer.MAX_VALUE, 0), BAD);
        check.due("set(0, 0, MIN)", s.set(0, 0, Integer.MIN_VALUE), BAD);
        int[] atFirst = {3, 1, 0, 2, 0, 0};
        for (int what = 0; what <= 5; what++) {
            check.due("set(3, " + what + ", 0) behind BAD", s.set(3, what, 0), atFirst[what]);
        }
    }

    private static void promise6Mark() {
        StackMarks s = new StackMarks();
        s.note(100, 0, 0, 0, 0);
        s.rest(200, 0, 0);
        check.due("mark(0, 0, 1, 1)", s.mark(0, 0, 1, 1), 0);
        check.due("mark(1, 9, 400, 40)", s.mark(1, 9, 400, 40), 1);
        check.due("mark(1, 9, 7, 3)", s.mark(1, 9, 7, 3), 2);
        check.due("count(1)", s.count(1), 3);
        s.place();
        check.due("left of 1", s.at(1, 0), 0);
        check.due("right of 1", s.at(1, 1), 400);
        check.due("height of 1", s.at(1, 4) - s.at(1, 3), 40);
        check.due("left of 2", s.at(2, 0), 197);
        check.due("right of 2", s.at(2, 1), 204);
    }

    private static void promise6MarkBad() {
        StackMarks s = new StackMarks();
        s.note(100, 0, 0, 0, 0);
        int[][] bad = {
            {-1, 0, 1, 1}, {1, 0, 1, 1}, {0, -1, 1, 1}, {0, 10, 1, 1}, {0, 0, 0, 1},
            {0, 0, 401, 1}, {0, 0, 1, 0}, {0, 0, 1, 41}, {0, 0, -1, 1}, {0, 0, 1, -1},
            {Integer.MIN_VALUE, 0, 1, 1}, {Integer.MAX_VALUE, 0, 1, 1},
            {0, Integer.MIN_VALUE, 1, 1}, {0, 0, Integer.MAX_VALUE, 1}
        };
        for (int[] b : bad) {
            check.due("mark(" + b[0] + ", " + b[1] + ", " + b[2] + ", " + b[3] + ")",
                    s.mark(b[0], b[1], b[2], b[3]), BAD);
        }
        check.due("count(1)", s.count(1), 0);
        check.due("the next good one", s.mark(0, 0, 1, 1), 0);
    }

    private static StackMarks fullOfMarks() {
        StackMarks s = new StackMarks();
        s.note(100, 0, 0, 0, 0);
        for (int i = 0; i < 80; i++) {
            check.due("mark " + i, s.mark(0, i % 10, 3, 2), i);
        }
        return s;
    }

    private static void promise6MarkFull() {
        StackMarks s = fullOfMarks();
        check.due("an 81st mark", s.mark(0, 0, 3, 2), FULL);
        check.due("an 81st mark that is BAD, too", s.mark(0, 0, 0, 2), BAD);
        check.due("an 81st mark of no item", s.mark(1, 0, 3, 2), BAD);
        check.due("count(1)", s.count(1), 80);
        check.due("place()", s.place(), 0);
        // 80 marks of height 2, each 2 beyond the one ahead of it
        check.due("the last one's OUTER height", s.at(79, 4), 18 + 80 * 4);
        check.due("the last one's turn", s.at(79, 6), 79);
        check.due("the outermost", s.order(0, -1, 79), 79);
        check.due("beyond it", s.order(0, -1, 80), Check.NONE);
    }

    private static void promise7Drop() {
        StackMarks s = new StackMarks();
        s.note(100, 0, 0, 0, 0);
        s.mark(0, 0, 3, 2);
        s.mark(0, 1, 3, 2);
        check.due("drop(0)", s.drop(0), 1);
        check.due("count(1)", s.count(1), 1);
        check.due("drop(0) again", s.drop(0), BAD);
        check.due("the next number", s.mark(0, 2, 3, 2), 2);
        check.due("drop(2)", s.drop(2), 1);
        check.due("the number behind", s.mark(0, 2, 3, 2), 3);
        check.due("wide(0)", s.wide(0), BAD);
        check.due("push(0)", s.push(0), BAD);
        s.place();
        check.due("at(0, 0)", s.at(0, 0), BAD);
        check.due("at(1, 6)", s.at(1, 6), 0);
        check.due("meets(0, 1)", s.meets(0, 1), BAD);
        check.due("meets(1, 0)", s.meets(1, 0), BAD);
        check.due("order(0, -1, 0)", s.order(0, -1, 0), 1);
        check.due("order(0, -1, 1)", s.order(0, -1, 1), 3);
        check.due("order(0, -1, 2)", s.order(0, -1, 2), Check.NONE);
    }

    private static void promise7DropBad() {
        StackMarks s = new StackMarks();
        s.note(100, 0, 0, 0, 0);
        s.mark(0, 0, 3, 2);
        for (int bad : new int[] {-1, 1, 79, 80, Integer.MIN_VALUE, Integer.MAX_VALUE}) {
            check.due("drop(" + bad + ")", s.drop(bad), BAD);
        }
        check.due("count(1)", s.count(1), 1);
    }

    private static void promise7DroppedMarksCountForTheEighty() {
        StackMarks s = fullOfMarks();
        check.due("drop(40)", s.drop(40), 1);
        check.due("drop(79)", s.drop(79), 1);
        check.due("an 81st mark", s.mark(0, 0, 3, 2), FULL);
        check.due("count(1)", s.count(1), 78);
    }

    private static void promise7DroppedMarksMakeNoRoom() {
        StackMarks s = new StackMarks();
        s.note(100, 0, 0, 0, 0);
        s.mark(0, 0, 3, 10);
        s.mark(0, 1, 3, 2);
        s.place();
        check.due("INNER of 1 beyond 0", s.at(1, 3), 32);
        s.drop(0);
        s.place();
        check.due("INNER of 1 without 0", s.at(1, 3), 20);
        check.due("skyline(100, -1)", s.skyline(100, -1), 22);
        check.due("count(5)", s.count(5), 22);
    }
}
