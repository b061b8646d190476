/** Promise 19: count. */
public final class CountTest {
    private static final Check check = new Check();

    public static void main(String[] args) {
        promise19Counts();
        promise19Outermost();
        promise19OutermostOfSlurs();
        promise19Refusals();
        check.end();
    }

    private static void promise19Counts() {
        StackMarks s = new StackMarks();
        s.note(10, 0, 0, 0, 0);
        s.rest(30, 0, 0);
        s.note(50, 0, 0, 0, 0);
        s.mark(0, 0, 4, 4);
        s.mark(1, 0, 4, 4);
        s.drop(0);
        s.slur(0, 1, 1, 3);
        s.slur(0, 2, 1, 3);
        check.due("count(0)", s.count(0), 3);
        check.due("count(1)", s.count(1), 1);
        check.due("count(2)", s.count(2), 2);
        check.due("count(3) ahead of place()", s.count(3), 0);
        s.place();
        check.due("count(3) behind place()", s.count(3), 1);
        s.lift(0, 0);
        check.due("count(3) behind lift()", s.count(3), 0);
    }

    private static void promise19Outermost() {
        StackMarks s = new StackMarks();
        s.note(100, -60, 60, 0, 1);
        s.place();
        check.due("count(4): notes do not count", s.count(4), 0);
        check.due("count(5): notes do not count", s.count(5), 0);
        s.note(300, 0, 0, 0, 1);
        s.set(0, 1, 2);
        s.mark(1, 0, 4, 7);
        s.mark(0, 0, 4, 5);
        s.place();
        check.due("count(4)", s.count(4), 95);
        check.due("count(5): none below", s.count(5), 0);
        s.mark(1, 1, 4, 9);
        s.place();
        check.due("count(5)", s.count(5), 29);
        s.drop(1);
        s.place();
        check.due("count(4) behind drop(1)", s.count(4), 37);
        s.drop(0);
        s.place();
        check.due("count(4) behind drop(0)", s.count(4), 0);
    }

    private static void promise19OutermostOfSlurs() {
        StackMarks s = new StackMarks();
        s.note(100, 0, 0, 0, 0);
        s.note(200, 0, 0, 0, 0);
        s.slur(0, 1, -1, 6);
        s.place();
        check.due("count(4)", s.count(4), 0);
        check.due("count(5): the slur, without the room beyond it", s.count(5), 27);
    }

    private static void promise19Refusals() {
        StackMarks s = new StackMarks();
        check.throwsState("count(4) ahead of place()", () -> s.count(4));
        check.throwsState("count(5) ahead of place()", () -> s.count(5));
        for (int bad : new int[] {-1, 6, Integer.MIN_VALUE, Integer.MAX_VALUE}) {
            check.due("count(" + bad + ") ahead of place()", s.count(bad), Check.BAD);
        }
        s.place();
        check.due("count(6)", s.count(6), Check.BAD);
    }
}
