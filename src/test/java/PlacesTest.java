/**
 * "What tells of PLACES throws IllegalStateException until place() was called, and again behind each
 * note(), rest(), lift(), set(), mark(), drop(), slur() that is not refused (also if all stays as it
 * was), and each push() that moves." Which calls throw, and which calls bring that about.
 */
public final class PlacesTest {
    private static final Check check = new Check();

    public static void main(String[] args) {
        check.runAll(PlacesTest.class);
    }

    private static StackMarks unplacedAgain() {
        StackMarks s = Scene.makePlaced();
        s.lift(0, 0);
        return s;
    }

    private static void promise10AtThrows() {
        for (StackMarks s : new StackMarks[] {Scene.make(), unplacedAgain()}) {
            for (int i = 0; i <= 6; i++) {
                int what = i;
                check.throwsState("at(0, " + what + ")", () -> s.at(0, what));
            }
        }
    }

    private static void promise11SlurAtThrows() {
        for (StackMarks s : new StackMarks[] {Scene.make(), unplacedAgain()}) {
            check.throwsState("slurAt(0, 0)", () -> s.slurAt(0, 0));
            check.throwsState("slurAt(1, 1)", () -> s.slurAt(1, 1));
        }
    }

    private static void promise12SkylineThrows() {
        for (StackMarks s : new StackMarks[] {new StackMarks(), Scene.make(), unplacedAgain()}) {
            check.throwsState("skyline(0, 1)", () -> s.skyline(0, 1));
            check.throwsState("skyline(101000, -1)", () -> s.skyline(101000, -1));
        }
    }

    /** Also where NONE is due once all is placed: NONE is none of the refusals that come first. */
    private static void promise13RowThrows() {
        for (StackMarks s : new StackMarks[] {new StackMarks(), Scene.make(), unplacedAgain()}) {
            check.throwsState("row(1, -1)", () -> s.row(1, -1));
            check.throwsState("row(9, 1), in no row", () -> s.row(9, 1));
        }
    }

    /** Also where NONE is due once all is placed: NONE is none of the refusals that come first. */
    private static void promise14OrderThrows() {
        for (StackMarks s : new StackMarks[] {Scene.make(), unplacedAgain()}) {
            check.throwsState("order(0, -1, 0)", () -> s.order(0, -1, 0));
            check.throwsState("order(0, 1, 79)", () -> s.order(0, 1, 79));
            check.throwsState("order(0, 1, -1)", () -> s.order(0, 1, -1));
        }
    }

    private static void promise15MeetsThrows() {
        for (StackMarks s : new StackMarks[] {Scene.make(), unplacedAgain()}) {
            check.throwsState("meets(0, 1)", () -> s.meets(0, 1));
            check.throwsState("meets(2, 0)", () -> s.meets(2, 0));
        }
    }

    private static void promise19CountOf4And5Throws() {
        for (StackMarks s : new StackMarks[] {new StackMarks(), Scene.make(), unplacedAgain()}) {
            check.throwsState("count(4)", () -> s.count(4));
            check.throwsState("count(5)", () -> s.count(5));
        }
    }

    /** What tells of no places answers ahead of place(), too. */
    private static void promise16WideDoesNotThrow() {
        check.due("wide(2)", Scene.make().wide(2), 0);
        check.due("wide(3)", Scene.make().wide(3), 274);
    }

    private static void promise17PushDoesNotThrow() {
        check.due("push(2)", Scene.make().push(2), 0);
        check.due("push(3)", Scene.make().push(3), Check.FULL);
    }

    private static void promise18ItemDoesNotThrow() {
        int[] due = {10, -20, 30, 0, 1, 0, 3};
        for (int what = 0; what <= 6; what++) {
            check.due("item(0, " + what + ")", Scene.make().item(0, what), due[what]);
        }
    }

    /** "until place() was called" */
    private static void promise9BehindPlaceNothingThrows() {
        StackMarks s = Scene.makePlaced();
        check.due("count(3)", s.count(3), 1);
        String all = Scene.look(s);
        check.isTrue("no answer is thrown: " + all, !all.contains("throws"));
    }

    /** The call was made on a scene that was placed. */
    private static void lost(StackMarks s, int got, int want) {
        check.due("the call", got, want);
        check.due("count(3) behind it", s.count(3), 0);
        check.throwsState("at behind it", () -> s.at(0, 0));
        check.throwsState("slurAt behind it", () -> s.slurAt(0, 0));
        check.throwsState("skyline behind it", () -> s.skyline(0, 1));
        check.throwsState("row behind it", () -> s.row(1, -1));
        check.throwsState("order behind it", () -> s.order(0, 1, 0));
        check.throwsState("meets behind it", () -> s.meets(0, 2));
        check.throwsState("count(4) behind it", () -> s.count(4));
        check.throwsState("count(5) behind it", () -> s.count(5));
        s.place();
        check.due("count(3) behind place()", s.count(3), 1);
    }

    private static void promise2NoteLosesPlaces() {
        StackMarks s = Scene.makePlaced();
        lost(s, s.note(500, 0, 0, 0, 0), 3);
    }

    private static void promise3RestLosesPlaces() {
        StackMarks s = Scene.makePlaced();
        lost(s, s.rest(600, 0, 0), 3);
    }

    private static void promise4LiftLosesPlaces() {
        StackMarks s = Scene.makePlaced();
        lost(s, s.lift(0, 1), 1);
    }

    /** "(also if all stays as it was)" */
    private static void promise4LiftBy0LosesPlaces() {
        StackMarks s = Scene.makePlaced();
        lost(s, s.lift(0, 0), 1);
    }

    private static void promise5SetLosesPlaces() {
        StackMarks s = Scene.makePlaced();
        lost(s, s.set(1, 3, 5), 2);
    }

    /** "(also if all stays as it was)" */
    private static void promise5SetToWhatItWasLosesPlaces() {
        StackMarks s = Scene.makePlaced();
        lost(s, s.set(1, 4, 1), 1);
    }

    /** "(also if all stays as it was)": no mark is of that kind */
    private static void promise5SetOfAKindWithoutMarksLosesPlaces() {
        StackMarks s = Scene.makePlaced();
        lost(s, s.set(9, 3, 5), 2);
    }

    private static void promise6MarkLosesPlaces() {
        StackMarks s = Scene.makePlaced();
        lost(s, s.mark(2, 0, 1, 1), 4);
    }

    private static void promise7DropLosesPlaces() {
        StackMarks s = Scene.makePlaced();
        lost(s, s.drop(3), 1);
    }

    private static void promise8SlurLosesPlaces() {
        StackMarks s = Scene.makePlaced();
        lost(s, s.slur(0, 1, -1, 1), 2);
    }

    /** "and each push() that moves" */
    private static void promise17PushThatMovesLosesPlaces() {
        StackMarks s = Scene.make();
        int mark = s.mark(0, 2, 27, 1);
        s.place();
        lost(s, s.push(mark), 1);
    }

    /** "each push() that moves": one that does not keeps them */
    private static void promise17PushThatDoesNotMoveKeepsPlaces() {
        StackMarks s = Scene.makePlaced();
        String before = Scene.look(s);
        check.due("push(2)", s.push(2), 0);
        check.due("all answers", Scene.look(s), before);
    }

    private static void promise9QuestionsKeepPlaces() {
        StackMarks s = Scene.makePlaced();
        String before = Scene.look(s);
        check.due("all answers, asked again", Scene.look(s), before);
        check.due("count(3)", s.count(3), 1);
    }
}
