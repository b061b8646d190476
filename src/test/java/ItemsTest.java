/** Promises 2 to 4 and 18: note, rest, lift, item. */
public final class ItemsTest {
    private static final int FULL = Check.FULL;
    private static final Check check = new Check();

    public static void main(String[] args) {
        check.runAll(ItemsTest.class);
    }

    private static StackMarks noteAndRest() {
        StackMarks s = new StackMarks();
        s.note(10, -5, 20, 0, 1);
        s.rest(30, 0, 0);
        return s;
    }

    /** Notes and rests by turns, at 0, 3, 6 .. */
    private static StackMarks withItems(int many) {
        StackMarks s = new StackMarks();
        for (int i = 0; i < many; i++) {
            check.due("item " + i, i % 2 == 0 ? s.note(i * 3, 0, 0, 0, 0) : s.rest(i * 3, 0, 0), i);
        }
        return s;
    }

    /** Items 0 at 10 and 1 at 20; then the second one is pushed to 24. */
    private static StackMarks pushedFrom20To24() {
        StackMarks s = new StackMarks();
        s.note(10, 0, 0, 0, 0);
        s.note(20, 0, 0, 0, 0);
        s.set(0, 2, 1);
        s.mark(0, 0, 10, 1);
        check.due("push(0)", s.push(0), 4);
        return s;
    }

    private static void itemIs(StackMarks s, int item, int... due) {
        for (int what = 0; what < due.length; what++) {
            check.due("item(" + item + ", " + what + ")", s.item(item, what), due[what]);
        }
    }

    /** "ITEMS .. are numbered as they come and stand by rising x" */
    private static void promise2NumberedAsTheyCome() {
        StackMarks s = new StackMarks();
        check.due("the first note", s.note(70, -3, 12, 1, -1), 0);
        check.due("a note to the left", s.note(7, 5, 5, 0, 1), 1);
        check.due("a note between", s.note(30, -9, -8, 0, 0), 2);
        itemIs(s, 0, 70, -3, 12, 1, -1, 0, 0);
        itemIs(s, 1, 7, 5, 5, 0, 1, 0, 0);
        itemIs(s, 2, 30, -9, -8, 0, 0, 0, 0);
    }

    /** "ITEMS, 40 at most"; "FULL" */
    private static void promise2FortyItemsAtMost() {
        StackMarks s = withItems(39);
        check.due("the 40th", s.note(1000, 0, 0, 0, 0), 39);
        check.due("a 41st", s.note(2000, 0, 0, 0, 0), FULL);
        check.due("count(0)", s.count(0), 40);
        check.due("item(39, 0)", s.item(39, 0), 1000);
    }

    /** "x (0 .. 100000 ..)" */
    private static void promise2XFrom0To100000() {
        StackMarks s = new StackMarks();
        check.due("note at 0", s.note(0, 0, 0, 0, 0), 0);
        check.due("note at 100000", s.note(100000, 0, 0, 0, 0), 1);
        check.due("item(0, 0)", s.item(0, 0), 0);
        check.due("item(1, 0)", s.item(1, 0), 100000);
        for (int x : Check.beyond(0, 100000)) {
            check.bad("note at " + x, s.note(x, 0, 0, 0, 0));
        }
    }

    /** "none at another one's x"; "BAD: also .. an ITEM is at x" */
    private static void promise2NoneAtAnothersX() {
        StackMarks s = noteAndRest();
        check.bad("at the note's x", s.note(10, 0, 0, 1, 0));
        check.bad("at the rest's x", s.note(30, 0, 0, 1, 0));
        int[] beside = {9, 11, 29, 31};
        for (int i = 0; i < beside.length; i++) {
            check.due("note at " + beside[i], s.note(beside[i], 0, 0, 0, 0), 2 + i);
        }
    }

    private static void promise2AnItemThatWasPushedIsAtItsNewX() {
        StackMarks s = pushedFrom20To24();
        check.bad("where it is now", s.note(24, 0, 0, 0, 0));
        check.due("where it was", s.note(20, 0, 0, 0, 0), 2);
    }

    /** "a lowest and a highest HEAD (y, -60 .. 60)" */
    private static void promise2HeadsFromMinus60To60() {
        StackMarks s = new StackMarks();
        check.due("from -60 to 60", s.note(0, -60, 60, 0, 0), 0);
        check.due("both at -60", s.note(1, -60, -60, 0, 0), 1);
        check.due("both at 60", s.note(2, 60, 60, 0, 0), 2);
        for (int y : Check.beyond(-60, 60)) {
            check.bad("both at " + y, s.note(5, y, y, 0, 0));
            check.bad("from " + y + " to 0", s.note(5, y, 0, 0, 0));
            check.bad("from 0 to " + y, s.note(5, 0, y, 0, 0));
        }
    }

    /** "BAD: also low above high" */
    private static void promise2LowAboveHigh() {
        StackMarks s = new StackMarks();
        check.due("low is high", s.note(5, 7, 7, 0, 0), 0);
        check.bad("low is 1 above high", s.note(6, 8, 7, 0, 0));
        check.bad("low is 1 above high, below 0", s.note(6, -7, -8, 0, 0));
        check.bad("low is 60, high is -60", s.note(6, 60, -60, 0, 0));
        check.due("low is 1 below high", s.note(6, 6, 7, 0, 0), 1);
    }

    /** "a VOICE (0, 1)" */
    private static void promise2VoiceIs0Or1() {
        StackMarks s = new StackMarks();
        for (int voice = 0; voice <= 1; voice++) {
            check.due("voice " + voice, s.note(voice, 0, 0, voice, 0), voice);
            check.due("item(" + voice + ", 3)", s.item(voice, 3), voice);
        }
        for (int voice : Check.beyond(0, 1)) {
            check.bad("voice " + voice, s.note(5, 0, 0, voice, 0));
        }
    }

    /** "a STEM (1 up, -1 down, 0 none)" */
    private static void promise2StemIs1Minus1Or0() {
        StackMarks s = new StackMarks();
        for (int stem = -1; stem <= 1; stem++) {
            check.due("stem " + stem, s.note(stem + 1, 0, 0, 0, stem), stem + 1);
            check.due("item(" + (stem + 1) + ", 4)", s.item(stem + 1, 4), stem);
        }
        for (int stem : Check.beyond(-1, 1)) {
            check.bad("stem " + stem, s.note(5, 0, 0, 0, stem));
        }
    }

    /** "a REST just y and a VOICE (it has both HEADS there, no STEM)" */
    private static void promise3BothHeadsAtYNoStem() {
        StackMarks s = new StackMarks();
        check.due("rest(50, 7, 1)", s.rest(50, 7, 1), 0);
        check.due("a rest to the left", s.rest(20, -8, 0), 1);
        itemIs(s, 0, 50, 7, 7, 1, 0, 1, 0);
        itemIs(s, 1, 20, -8, -8, 0, 0, 1, 0);
    }

    /** "ITEMS, 40 at most"; "likewise" */
    private static void promise3FortyItemsAtMost() {
        StackMarks s = withItems(39);
        check.due("the 40th", s.rest(1000, 0, 0), 39);
        check.due("a 41st", s.rest(2000, 0, 0), FULL);
        check.due("count(0)", s.count(0), 40);
        check.due("item(39, 5)", s.item(39, 5), 1);
    }

    /** "x (0 .. 100000 ..)"; "likewise" */
    private static void promise3XFrom0To100000() {
        StackMarks s = new StackMarks();
        check.due("rest at 0", s.rest(0, 0, 0), 0);
        check.due("rest at 100000", s.rest(100000, 0, 0), 1);
        check.due("item(0, 0)", s.item(0, 0), 0);
        check.due("item(1, 0)", s.item(1, 0), 100000);
        for (int x : Check.beyond(0, 100000)) {
            check.bad("rest at " + x, s.rest(x, 0, 0));
        }
    }

    /** "none at another one's x"; "likewise" */
    private static void promise3NoneAtAnothersX() {
        StackMarks s = noteAndRest();
        check.bad("at the note's x", s.rest(10, 0, 1));
        check.bad("at the rest's x", s.rest(30, 0, 1));
        int[] beside = {9, 11, 29, 31};
        for (int i = 0; i < beside.length; i++) {
            check.due("rest at " + beside[i], s.rest(beside[i], 0, 0), 2 + i);
        }
    }

    private static void promise3AnItemThatWasPushedIsAtItsNewX() {
        StackMarks s = pushedFrom20To24();
        check.bad("where it is now", s.rest(24, 0, 0));
        check.due("where it was", s.rest(20, 0, 0), 2);
    }

    /** "(y -60 .. 60)" */
    private static void promise3YFromMinus60To60() {
        StackMarks s = new StackMarks();
        check.due("rest at y -60", s.rest(1, -60, 0), 0);
        check.due("rest at y 60", s.rest(2, 60, 0), 1);
        itemIs(s, 0, 1, -60, -60);
        itemIs(s, 1, 2, 60, 60);
        for (int y : Check.beyond(-60, 60)) {
            check.bad("rest at y " + y, s.rest(5, y, 0));
        }
    }

    /** "a VOICE (0, 1)"; "likewise" */
    private static void promise3VoiceIs0Or1() {
        StackMarks s = new StackMarks();
        for (int voice = 0; voice <= 1; voice++) {
            check.due("voice " + voice, s.rest(voice, 0, voice), voice);
            check.due("item(" + voice + ", 3)", s.item(voice, 3), voice);
        }
        for (int voice : Check.beyond(0, 1)) {
            check.bad("voice " + voice, s.rest(5, 0, voice));
        }
    }

    /** "A REST or NOTE goes up by so much .. : 1." */
    private static void promise4GoesUp() {
        StackMarks s = noteAndRest();
        check.due("lift(0, 7)", s.lift(0, 7), 1);
        itemIs(s, 0, 10, 2, 27, 0, 1, 0);
        check.due("lift(0, -9)", s.lift(0, -9), 1);
        itemIs(s, 0, 10, -7, 18, 0, 1, 0);
        itemIs(s, 1, 30, 0, 0, 0, 0, 1);
        check.due("lift(1, -3)", s.lift(1, -3), 1);
        itemIs(s, 1, 30, -3, -3, 0, 0, 1);
    }

    /** "(its HEADS stay within bounds)" */
    private static void promise4HighestHeadUpTo60() {
        StackMarks s = noteAndRest();
        check.bad("the note to 61", s.lift(0, 41));
        check.bad("the rest to 61", s.lift(1, 61));
        itemIs(s, 0, 10, -5, 20);
        itemIs(s, 1, 30, 0, 0);
        check.due("the note to 60", s.lift(0, 40), 1);
        check.due("the rest to 60", s.lift(1, 60), 1);
        itemIs(s, 0, 10, 35, 60);
        itemIs(s, 1, 30, 60, 60);
    }

    /** "(its HEADS stay within bounds)" */
    private static void promise4LowestHeadDownToMinus60() {
        StackMarks s = noteAndRest();
        check.bad("the note to -61", s.lift(0, -56));
        check.bad("the rest to -61", s.lift(1, -61));
        itemIs(s, 0, 10, -5, 20);
        itemIs(s, 1, 30, 0, 0);
        check.due("the note to -60", s.lift(0, -55), 1);
        check.due("the rest to -60", s.lift(1, -60), 1);
        itemIs(s, 0, 10, -60, -35);
        itemIs(s, 1, 30, -60, -60);
    }

    private static void promise4FromOneBoundToTheOther() {
        StackMarks s = new StackMarks();
        s.rest(30, -60, 0);
        check.bad("by 121", s.lift(0, 121));
        check.due("by 120", s.lift(0, 120), 1);
        itemIs(s, 0, 30, 60, 60);
        check.bad("by -121", s.lift(0, -121));
        check.due("by -120", s.lift(0, -120), 1);
        itemIs(s, 0, 30, -60, -60);
    }

    private static void promise4ANoteBetweenBothBounds() {
        StackMarks s = new StackMarks();
        s.note(30, -60, 60, 0, 0);
        check.bad("by 1", s.lift(0, 1));
        check.bad("by -1", s.lift(0, -1));
        check.due("by 0", s.lift(0, 0), 1);
        itemIs(s, 0, 30, -60, 60);
    }

    /**
     * "(its HEADS stay within bounds)": the one head's sum would wrap around and the other's would not,
     * so that the lowest would not be seen below its bound, nor the highest above its own.
     */
    private static void promise4NoWrapAround() {
        StackMarks s = new StackMarks();
        s.note(10, -60, 60, 0, 0);
        s.note(20, -1, 1, 0, 0);
        int[] far = {Integer.MIN_VALUE, Integer.MIN_VALUE + 59, Integer.MAX_VALUE, Integer.MAX_VALUE - 59};
        for (int by : far) {
            check.bad("lift(0, " + by + ")", s.lift(0, by));
            check.bad("lift(1, " + by + ")", s.lift(1, by));
        }
        itemIs(s, 0, 10, -60, 60);
        itemIs(s, 1, 20, -1, 1);
    }

    /** "BAD (.. or there is no such thing)" */
    private static void promise4ThereIsNoSuchItem() {
        StackMarks s = noteAndRest();
        for (int item : Check.beyond(0, 1)) {
            check.bad("lift(" + item + ", 0)", s.lift(item, 0));
        }
        check.bad("lift(39, 0)", s.lift(39, 0));
        check.bad("lift(40, 0)", s.lift(40, 0));
    }

    /** "and its MARKS with it" */
    private static void promise4MarksGoWithIt() {
        StackMarks s = new StackMarks();
        s.note(10, 0, 0, 0, 1);
        s.set(0, 1, 0);
        s.mark(0, 0, 4, 5);
        s.place();
        check.due("INNER at first", s.at(0, 3), 30);
        s.lift(0, 11);
        s.place();
        check.due("INNER behind lift(0, 11)", s.at(0, 3), 41);
        check.due("OUTER behind lift(0, 11)", s.at(0, 4), 46);
    }

    /** "Of an ITEM: 0 x, .. 6 how many MARKS. BAD." */
    private static void promise18WhatFrom0To6() {
        StackMarks s = new StackMarks();
        s.note(10, -4, 3, 1, -1);
        itemIs(s, 0, 10, -4, 3, 1, -1, 0, 0);
        for (int what : Check.beyond(0, 6)) {
            check.bad("item(0, " + what + ")", s.item(0, what));
        }
    }

    /** "BAD (.. or there is no such thing)" */
    private static void promise18ThereIsNoSuchItem() {
        StackMarks s = noteAndRest();
        for (int item : Check.beyond(0, 1)) {
            check.bad("item(" + item + ", 0)", s.item(item, 0));
            check.bad("item(" + item + ", 6)", s.item(item, 6));
        }
        StackMarks full = withItems(40);
        check.due("item(39, 0)", full.item(39, 0), 117);
        check.bad("item(40, 0)", full.item(40, 0));
    }

    /** "6 how many MARKS" */
    private static void promise18HowManyMarks() {
        StackMarks s = noteAndRest();
        check.due("item(0, 6) without marks", s.item(0, 6), 0);
        s.mark(0, 0, 1, 1);
        s.mark(0, 0, 1, 1);
        s.mark(1, 5, 1, 1);
        check.due("item(0, 6)", s.item(0, 6), 2);
        check.due("item(1, 6)", s.item(1, 6), 1);
        s.drop(0);
        check.due("item(0, 6) behind drop(0)", s.item(0, 6), 1);
        check.due("item(1, 6) behind drop(0)", s.item(1, 6), 1);
        s.drop(1);
        check.due("item(0, 6) behind drop(1)", s.item(0, 6), 0);
    }

    private static void promise18EightyMarksAtOneItem() {
        StackMarks s = noteAndRest();
        for (int i = 0; i < 80; i++) {
            s.mark(1, i % 10, 1, 1);
        }
        check.due("item(1, 6)", s.item(1, 6), 80);
        check.due("item(0, 6)", s.item(0, 6), 0);
    }

    private static void promise18BehindAPush() {
        StackMarks s = pushedFrom20To24();
        itemIs(s, 0, 10, 0, 0, 0, 0, 0, 1);
        itemIs(s, 1, 24, 0, 0, 0, 0, 0, 0);
    }
}
