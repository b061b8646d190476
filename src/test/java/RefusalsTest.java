/** When places are lost, and that a refused call changes nothing. */
public final class RefusalsTest {
    private static final Check check = new Check();
    private static final int ITEMS = 3, MARKS = 4, SLURS = 2;

    public static void main(String[] args) {
        changesLosePlaces();
        questionsKeepPlaces();
        badChangesNothing();
        fullItemsChangeNothing();
        fullMarksChangeNothing();
        fullSlursChangeNothing();
        thrownChangesNothing();
        check.end();
    }

    private static StackMarks scene() {
        StackMarks s = new StackMarks();
        s.note(10, -20, 30, 0, 1);
        s.note(40, 0, 0, 0, -1);
        s.rest(99990, 5, 0);
        s.set(1, 4, 1);
        s.set(2, 2, 1);
        s.slur(0, 1, 1, 4);
        s.slur(0, 2, -1, 4);
        s.mark(0, 1, 10, 5);
        s.mark(0, 1, 10, 5);
        s.mark(1, 2, 9, 4);
        s.mark(0, 2, 300, 4);
        return s;
    }

    private static String look(StackMarks s) {
        return Snapshot.of(s, ITEMS, MARKS, SLURS);
    }

    private static void losesPlaces(String call, StackMarks s, int got, int want) {
        check.due(call, got, want);
        check.due("count(3) behind " + call, s.count(3), 0);
        check.throwsState("at behind " + call, () -> s.at(0, 0));
        check.throwsState("slurAt behind " + call, () -> s.slurAt(0, 0));
        check.throwsState("skyline behind " + call, () -> s.skyline(0, 1));
        check.throwsState("row behind " + call, () -> s.row(1, 1));
        check.throwsState("row of a kind in no row behind " + call, () -> s.row(7, 1));
        check.throwsState("order behind " + call, () -> s.order(0, 1, 0));
        check.throwsState("meets behind " + call, () -> s.meets(0, 2));
        check.throwsState("count(4) behind " + call, () -> s.count(4));
        check.throwsState("count(5) behind " + call, () -> s.count(5));
        s.place();
        check.due("count(3) behind place()", s.count(3), 1);
    }

    private static void changesLosePlaces() {
        StackMarks s = scene();
        s.place();
        losesPlaces("note", s, s.note(500, 0, 0, 0, 0), 3);
        losesPlaces("rest", s, s.rest(600, 0, 0), 4);
        losesPlaces("lift by 0", s, s.lift(0, 0), 1);
        losesPlaces("set to what it was", s, s.set(1, 4, 1), 1);
        losesPlaces("mark", s, s.mark(2, 0, 1, 1), 4);
        losesPlaces("drop", s, s.drop(4), 1);
        losesPlaces("slur", s, s.slur(0, 1, -1, 1), 2);
        StackMarks other = new StackMarks();
        other.note(10, 0, 0, 0, 0);
        other.note(20, 0, 0, 0, 0);
        other.slur(0, 1, 1, 1);
        other.set(0, 2, 1);
        other.mark(0, 0, 9, 1);
        other.mark(0, 0, 9, 1);
        other.mark(0, 0, 9, 1);
        other.place();
        losesPlaces("push that moves", other, other.push(0), 3);
    }

    private static void questionsKeepPlaces() {
        StackMarks s = scene();
        s.place();
        String first = look(s);
        check.due("all answers, asked again", look(s), first);
        check.due("push that does not move", s.push(2), 0);
        check.due("all answers behind push", look(s), first);
    }

    private static int[] manyBadCalls(StackMarks s) {
        return new int[] {
            s.note(10, 0, 0, 0, 0), s.note(100001, 0, 0, 0, 0), s.note(50, 3, 2, 0, 0),
            s.note(50, 0, 0, 2, 0), s.note(50, 0, 0, 0, 2), s.note(50, 0, 61, 0, 0),
            s.rest(40, 0, 0), s.rest(-1, 0, 0), s.rest(50, 61, 0), s.rest(50, 0, 2),
            s.lift(0, 31), s.lift(0, -41), s.lift(3, 0), s.lift(0, Integer.MAX_VALUE),
            s.set(10, 0, 0), s.set(0, 6, 0), s.set(0, 0, 10), s.set(1, 4, 2), s.set(2, 3, 21),
            s.mark(3, 0, 1, 1), s.mark(0, 10, 1, 1), s.mark(0, 0, 401, 1), s.mark(0, 0, 1, 41),
            s.drop(4), s.drop(-1),
            s.slur(1, 0, 1, 1), s.slur(0, 3, 1, 1), s.slur(0, 1, 0, 1), s.slur(0, 1, 1, 21),
            s.at(4, 0), s.at(0, 7), s.slurAt(2, 0), s.skyline(-1, 1), s.row(10, 1), s.order(3, 1, 0),
            s.meets(0, 0), s.wide(4), s.push(4), s.item(3, 0), s.item(0, 7), s.count(6)
        };
    }

    private static void allAreBad(StackMarks s) {
        int[] answers = manyBadCalls(s);
        for (int i = 0; i < answers.length; i++) {
            check.due("bad call " + i, answers[i], Check.BAD);
        }
    }

    private static void badChangesNothing() {
        StackMarks s = scene();
        String unplaced = look(s);
        allAreBad(s);
        check.due("all answers behind BAD", look(s), unplaced);
        s.place();
        String placed = look(s);
        allAreBad(s);
        check.due("push: FULL", s.push(3), Check.FULL);
        check.due("all answers behind BAD and FULL", look(s), placed);
        s.place();
        check.due("all answers, placed anew", look(s), placed);
    }

    private static void fullChangesNothing(String what, StackMarks s, Check.Call... calls) {
        s.place();
        String before = look(s);
        for (Check.Call call : calls) {
            check.due("one more of " + what, call.answer(), Check.FULL);
        }
        check.due("all answers behind FULL", look(s), before);
        s.place();
        check.due("all answers, placed anew", look(s), before);
    }

    private static void fullItemsChangeNothing() {
        StackMarks s = scene();
        for (int i = ITEMS; i < 40; i++) {
            s.note(1000 + i * 20, 0, 0, 0, 0);
        }
        fullChangesNothing("40 items", s, () -> s.note(500, 0, 0, 1, 0), () -> s.rest(500, 0, 1));
    }

    private static void fullMarksChangeNothing() {
        StackMarks s = scene();
        for (int i = MARKS; i < 80; i++) {
            s.mark(2, 9, 1, 1);
        }
        fullChangesNothing("80 marks", s, () -> s.mark(0, 0, 1, 1));
    }

    private static void fullSlursChangeNothing() {
        StackMarks s = scene();
        for (int i = SLURS; i < 10; i++) {
            s.slur(1, 2, 1, 1);
        }
        fullChangesNothing("10 slurs", s, () -> s.slur(0, 1, 1, 1));
    }

    private static void thrownChangesNothing() {
        StackMarks s = scene();
        StackMarks same = scene();
        check.throwsState("skyline", () -> s.skyline(0, 1));
        check.throwsState("count(4)", () -> s.count(4));
        check.throwsState("meets", () -> s.meets(0, 1));
        check.due("count(3)", s.count(3), 0);
        s.place();
        same.place();
        check.due("all answers behind throws", look(s), look(same));
    }
}
