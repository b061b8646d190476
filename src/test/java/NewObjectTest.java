/** Promise 1: a new object. */
public final class NewObjectTest {
    private static final Check check = new Check();

    public static void main(String[] args) {
        check.runAll(NewObjectTest.class);
    }

    /** "Nothing on the staff." */
    private static void promise1NothingIsThere() {
        StackMarks s = new StackMarks();
        for (int what = 0; what <= 3; what++) {
            check.due("count(" + what + ")", s.count(what), 0);
        }
        check.bad("item(0, 0)", s.item(0, 0));
        check.bad("lift(0, 0)", s.lift(0, 0));
        check.bad("mark(0, 0, 1, 1)", s.mark(0, 0, 1, 1));
        check.bad("drop(0)", s.drop(0));
        check.bad("slur(0, 1, 1, 1)", s.slur(0, 1, 1, 1));
        check.bad("wide(0)", s.wide(0));
        check.bad("push(0)", s.push(0));
        check.bad("at(0, 0)", s.at(0, 0));
        check.bad("slurAt(0, 0)", s.slurAt(0, 0));
        check.bad("order(0, 1, 0)", s.order(0, 1, 0));
        check.bad("meets(0, 1)", s.meets(0, 1));
    }

    /** "What tells of PLACES throws IllegalStateException until place() was called" */
    private static void promise1NothingIsPlaced() {
        StackMarks s = new StackMarks();
        check.throwsState("skyline(0, 1)", () -> s.skyline(0, 1));
        check.throwsState("row(0, 1)", () -> s.row(0, 1));
        check.throwsState("count(4)", () -> s.count(4));
        check.throwsState("count(5)", () -> s.count(5));
    }

    private static void promise1NothingCanBePlaced() {
        StackMarks s = new StackMarks();
        check.due("place()", s.place(), 0);
        check.due("count(3)", s.count(3), 1);
        check.due("skyline(0, 1)", s.skyline(0, 1), 18);
        check.due("row(0, 1)", s.row(0, 1), Check.NONE);
        check.due("count(4)", s.count(4), 0);
        check.due("count(5)", s.count(5), 0);
    }

    private static void promise1ObjectsAreApart() {
        StackMarks one = new StackMarks();
        one.note(5, 0, 0, 0, 0);
        one.mark(0, 3, 4, 5);
        one.set(3, 3, 9);
        one.place();
        StackMarks other = new StackMarks();
        check.due("count(0)", other.count(0), 0);
        check.due("count(1)", other.count(1), 0);
        check.due("count(3)", other.count(3), 0);
        check.due("set(3, 3, 1)", other.set(3, 3, 1), 2);
        check.due("set(3, 3, 1) of the first", one.set(3, 3, 1), 9);
    }

    /** "An object is used for at most 512 calls after it has been made" */
    private static void promise1TheLastOf512Calls() {
        StackMarks s = new StackMarks();
        for (int i = 0; i < 40; i++) {
            s.note(i * 20, 20, 20, 0, 1);
        }
        for (int i = 0; i < 10; i++) {
            s.slur(0, 39, 1, 20);
        }
        s.set(0, 1, 2);
        for (int i = 0; i < 80; i++) {
            s.mark(i % 40, 0, 400, 40);
        }
        int outermost = 0;
        for (int call = 131; call < 511; call += 2) {
            check.due("call " + (call + 1), s.place(), 0);
            int got = s.count(4);
            check.due("call " + (call + 2), got, outermost == 0 ? got : outermost);
            outermost = got;
        }
        // Call 511 was the last that the loop made.
        check.due("call 512: INNER of the first mark", s.at(0, 3), 48 + 10 * 26 + 2);
    }
}
