/**
 * "REFUSALS change nothing; of several the first: BAD (a number is not as told, or there is no such
 * thing), FULL, what is thrown."
 */
public final class RefusalsTest {
    private static final int BAD = Check.BAD, FULL = Check.FULL;
    private static final Check check = new Check();

    public static void main(String[] args) {
        check.runAll(RefusalsTest.class);
    }

    /** A call on a scene. */
    private interface On {
        int answer(StackMarks s);
    }

    /** The calls are refused, and all stays as it was: unplaced, placed, and placed anew. */
    private static void changesNothing(int due, On... calls) {
        refusedOn("unplaced", Scene.make(), due, calls);
        refusedOnPlaced(Scene.makePlaced(), due, calls);
    }

    private static void refusedOnPlaced(StackMarks s, int due, On... calls) {
        String before = refusedOn("placed", s, due, calls);
        s.place();
        check.due("all answers, placed anew", Scene.look(s), before);
    }

    /** Answers how all was ahead of the calls. */
    private static String refusedOn(String name, StackMarks s, int due, On... calls) {
        String before = Scene.look(s);
        for (int i = 0; i < calls.length; i++) {
            check.due(name + ": refused call " + i, calls[i].answer(s), due);
        }
        check.due(name + ": all answers behind refused calls", Scene.look(s), before);
        return before;
    }

    private static void promise2BadNoteChangesNothing() {
        changesNothing(BAD, s -> s.note(10, 0, 0, 1, 0), s -> s.note(99990, 0, 0, 1, 0),
                s -> s.note(-1, 0, 0, 1, 0), s -> s.note(100001, 0, 0, 1, 0), s -> s.note(50, 3, 2, 1, 0),
                s -> s.note(50, 0, 61, 1, 0), s -> s.note(50, -61, 0, 1, 0),
                s -> s.note(50, 0, 0, 2, 0), s -> s.note(50, 0, 0, 1, 2));
    }

    private static void promise3BadRestChangesNothing() {
        changesNothing(BAD, s -> s.rest(10, 0, 1), s -> s.rest(99990, 0, 1), s -> s.rest(-1, 0, 1),
                s -> s.rest(100001, 0, 1), s -> s.rest(50, 61, 1), s -> s.rest(50, -61, 1),
                s -> s.rest(50, 0, 2));
    }

    private static void promise4BadLiftChangesNothing() {
        changesNothing(BAD, s -> s.lift(0, 31), s -> s.lift(0, -41), s -> s.lift(2, 56),
                s -> s.lift(3, 0), s -> s.lift(-1, 0), s -> s.lift(0, Integer.MAX_VALUE));
    }

    private static void promise5BadSetChangesNothing() {
        changesNothing(BAD, s -> s.set(10, 0, 0), s -> s.set(-1, 0, 0), s -> s.set(1, 6, 0),
                s -> s.set(1, -1, 0), s -> s.set(1, 0, 10), s -> s.set(1, 1, 4), s -> s.set(1, 2, 2),
                s -> s.set(1, 3, 21), s -> s.set(1, 4, 2), s -> s.set(1, 5, 2), s -> s.set(2, 2, -1));
    }

    private static void promise6BadMarkChangesNothing() {
        changesNothing(BAD, s -> s.mark(3, 0, 1, 1), s -> s.mark(-1, 0, 1, 1), s -> s.mark(0, 10, 1, 1),
                s -> s.mark(0, -1, 1, 1), s -> s.mark(0, 0, 0, 1), s -> s.mark(0, 0, 401, 1),
                s -> s.mark(0, 0, 1, 0), s -> s.mark(0, 0, 1, 41));
    }

    private static void promise7BadDropChangesNothing() {
        changesNothing(BAD, s -> s.drop(4), s -> s.drop(-1), s -> s.drop(80));
        StackMarks s = Scene.makePlaced();
        s.drop(3);
        refusedOn("dropped", s, BAD, t -> t.drop(3), t -> t.push(3));
        s.place();
        refusedOn("dropped and placed", s, BAD, t -> t.drop(3), t -> t.push(3));
    }

    private static void promise8BadSlurChangesNothing() {
        changesNothing(BAD, s -> s.slur(1, 0, 1, 1), s -> s.slur(0, 0, 1, 1), s -> s.slur(0, 3, 1, 1),
                s -> s.slur(-1, 1, 1, 1), s -> s.slur(0, 1, 0, 1), s -> s.slur(0, 1, 2, 1),
                s -> s.slur(0, 1, 1, 0), s -> s.slur(0, 1, 1, 21));
    }

    private static void promise17BadPushChangesNothing() {
        changesNothing(BAD, s -> s.push(4), s -> s.push(-1), s -> s.push(80));
    }

    private static void promise17FullPushChangesNothing() {
        changesNothing(FULL, s -> s.push(3));
    }

    /** Of each question a bad one. */
    private static void promise19BadQuestionsChangeNothing() {
        changesNothing(BAD, s -> s.at(4, 0), s -> s.at(0, 7), s -> s.slurAt(2, 0), s -> s.slurAt(0, 2),
                s -> s.skyline(-1, 1), s -> s.skyline(0, 0), s -> s.row(10, 1), s -> s.row(0, 0),
                s -> s.order(3, 1, 0), s -> s.order(0, 0, 0), s -> s.meets(0, 0), s -> s.meets(0, 4),
                s -> s.wide(4), s -> s.item(3, 0), s -> s.item(0, 7), s -> s.count(6));
    }

    private static void fullChangesNothing(On... calls) {
        StackMarks s = Scene.makeFull();
        s.place();
        refusedOnPlaced(s, FULL, calls);
    }

    private static void promise2FullNoteChangesNothing() {
        fullChangesNothing(s -> s.note(500, 0, 0, 1, 0));
    }

    private static void promise3FullRestChangesNothing() {
        fullChangesNothing(s -> s.rest(500, 0, 1));
    }

    private static void promise6FullMarkChangesNothing() {
        fullChangesNothing(s -> s.mark(0, 0, 1, 1));
    }

    private static void promise8FullSlurChangesNothing() {
        fullChangesNothing(s -> s.slur(0, 1, 1, 1));
    }

    /** "of several the first": each call has one wrong number, where a right one would be FULL. */
    private static void badOnFull(int due, On... calls) {
        StackMarks s = Scene.makeFull();
        for (int i = 0; i < calls.length; i++) {
            check.due("call " + i + " on a full scene", calls[i].answer(s), due);
        }
    }

    private static void promise2BadAheadOfFull() {
        badOnFull(FULL, s -> s.note(500, 0, 0, 0, 0));
        badOnFull(BAD, s -> s.note(-1, 0, 0, 0, 0), s -> s.note(100001, 0, 0, 0, 0),
                s -> s.note(10, 0, 0, 0, 0), s -> s.note(99990, 0, 0, 0, 0), s -> s.note(500, -61, 0, 0, 0),
                s -> s.note(500, 0, 61, 0, 0), s -> s.note(500, 1, 0, 0, 0), s -> s.note(500, 0, 0, 2, 0),
                s -> s.note(500, 0, 0, -1, 0), s -> s.note(500, 0, 0, 0, 2), s -> s.note(500, 0, 0, 0, -2));
    }

    private static void promise3BadAheadOfFull() {
        badOnFull(FULL, s -> s.rest(500, 0, 0));
        badOnFull(BAD, s -> s.rest(-1, 0, 0), s -> s.rest(100001, 0, 0), s -> s.rest(10, 0, 0),
                s -> s.rest(99990, 0, 0), s -> s.rest(500, -61, 0), s -> s.rest(500, 61, 0),
                s -> s.rest(500, 0, 2), s -> s.rest(500, 0, -1));
    }

    private static void promise6BadAheadOfFull() {
        badOnFull(FULL, s -> s.mark(0, 0, 1, 1));
        badOnFull(BAD, s -> s.mark(-1, 0, 1, 1), s -> s.mark(40, 0, 1, 1), s -> s.mark(0, -1, 1, 1),
                s -> s.mark(0, 10, 1, 1), s -> s.mark(0, 0, 0, 1), s -> s.mark(0, 0, 401, 1),
                s -> s.mark(0, 0, 1, 0), s -> s.mark(0, 0, 1, 41));
    }

    private static void promise8BadAheadOfFull() {
        badOnFull(FULL, s -> s.slur(0, 1, 1, 1));
        badOnFull(BAD, s -> s.slur(-1, 1, 1, 1), s -> s.slur(0, 40, 1, 1), s -> s.slur(0, 0, 1, 1),
                s -> s.slur(1, 0, 1, 1), s -> s.slur(0, 1, 0, 1), s -> s.slur(0, 1, 1, 0),
                s -> s.slur(0, 1, 1, 21));
    }

    /** "of several the first": each call has one wrong number, where a right one would throw. */
    private static void badUnplaced(On... calls) {
        StackMarks s = Scene.make();
        for (int i = 0; i < calls.length; i++) {
            int call = i;
            String got = Check.outcome(() -> calls[call].answer(s));
            check.due("call " + i + " ahead of place()", got, Integer.toString(BAD));
        }
    }

    private static void promise10BadAheadOfWhatIsThrown() {
        badUnplaced(s -> s.at(-1, 0), s -> s.at(4, 0), s -> s.at(80, 0), s -> s.at(0, -1), s -> s.at(0, 7));
    }

    private static void promise11BadAheadOfWhatIsThrown() {
        badUnplaced(s -> s.slurAt(-1, 0), s -> s.slurAt(2, 0), s -> s.slurAt(0, -1), s -> s.slurAt(0, 2));
    }

    private static void promise12BadAheadOfWhatIsThrown() {
        badUnplaced(s -> s.skyline(-1, 1), s -> s.skyline(101001, 1), s -> s.skyline(0, 0),
                s -> s.skyline(0, 2), s -> s.skyline(0, -2));
    }

    private static void promise13BadAheadOfWhatIsThrown() {
        badUnplaced(s -> s.row(-1, 1), s -> s.row(10, 1), s -> s.row(0, 0), s -> s.row(0, 2));
    }

    private static void promise14BadAheadOfWhatIsThrown() {
        badUnplaced(s -> s.order(-1, 1, 0), s -> s.order(3, 1, 0), s -> s.order(0, 0, 0),
                s -> s.order(0, 2, -1));
    }

    private static void promise15BadAheadOfWhatIsThrown() {
        badUnplaced(s -> s.meets(-1, 0), s -> s.meets(0, 4), s -> s.meets(4, 0), s -> s.meets(0, 0));
    }

    private static void promise19BadAheadOfWhatIsThrown() {
        badUnplaced(s -> s.count(-1), s -> s.count(6));
    }

    /** "REFUSALS change nothing": what is thrown, too */
    private static void promise19WhatIsThrownChangesNothing() {
        StackMarks s = Scene.make();
        check.throwsState("at", () -> s.at(0, 0));
        check.throwsState("slurAt", () -> s.slurAt(0, 0));
        check.throwsState("skyline", () -> s.skyline(0, 1));
        check.throwsState("row", () -> s.row(0, 1));
        check.throwsState("order", () -> s.order(0, 1, 0));
        check.throwsState("meets", () -> s.meets(0, 1));
        check.throwsState("count(4)", () -> s.count(4));
        check.due("all answers", Scene.look(s), Scene.look(Scene.make()));
        s.place();
        check.due("all answers behind place()", Scene.look(s), Scene.look(Scene.makePlaced()));
    }
}
