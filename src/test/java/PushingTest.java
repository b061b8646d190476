/** Promises 16 and 17: wide, push. */
public final class PushingTest {
    private static final int FULL = Check.FULL;
    private static final Check check = new Check();

    public static void main(String[] args) {
        check.runAll(PushingTest.class);
    }

    private static StackMarks notesAt(int... xs) {
        StackMarks s = new StackMarks();
        for (int x : xs) {
            s.note(x, 0, 0, 0, 0);
        }
        s.set(0, 2, 1);
        return s;
    }

    private static void xAre(StackMarks s, int... due) {
        for (int i = 0; i < due.length; i++) {
            check.due("item(" + i + ", 0)", s.item(i, 0), due[i]);
        }
    }

    /** "TOO WIDE by what its left edge, WIDTH and 4 together are above the x of the next ITEM" */
    private static void promise16LeftEdgeWidthAnd4Together() {
        StackMarks s = notesAt(100, 120);
        int[][] due = {{1, 0}, {15, 0}, {16, 0}, {17, 1}, {18, 2}, {400, 384}};
        for (int i = 0; i < due.length; i++) {
            s.mark(0, 0, due[i][0], 3);
            check.due("wide, WIDTH " + due[i][0], s.wide(i), due[i][1]);
        }
    }

    private static void promise16AtTheBoundsOfX() {
        StackMarks s = notesAt(0, 1, 99999, 100000);
        s.mark(0, 0, 400, 3);
        s.mark(0, 0, 1, 3);
        s.mark(2, 0, 400, 3);
        s.mark(2, 0, 1, 3);
        int[] due = {403, 4, 403, 4};
        for (int i = 0; i < due.length; i++) {
            check.due("wide(" + i + ")", s.wide(i), due[i]);
        }
    }

    /** "the next ITEM (by x ..)" */
    private static void promise16NextByX() {
        StackMarks s = notesAt(120, 100, 300, 110);
        s.mark(1, 0, 400, 3);
        s.mark(3, 0, 400, 3);
        s.mark(0, 0, 200, 3);
        check.due("wide(0): the next is item 3", s.wide(0), 394);
        check.due("wide(1): the next is item 0", s.wide(1), 394);
        check.due("wide(2): the next is item 2", s.wide(2), 24);
    }

    private static void promise16ARestIsANextItem() {
        StackMarks s = notesAt(100, 300);
        s.rest(110, 0, 1);
        s.mark(0, 0, 10, 3);
        check.due("wide(0)", s.wide(0), 4);
    }

    /** "(.. 0 without one ..)" */
    private static void promise16NoNextItem() {
        StackMarks s = notesAt(100, 50);
        s.mark(0, 0, 400, 3);
        check.due("wide(0) of the last item", s.wide(0), 0);
        StackMarks alone = notesAt(100000);
        alone.mark(0, 0, 400, 3);
        check.due("wide(0) of the only item", alone.wide(0), 0);
    }

    /** "(.. or if they are not)" */
    private static void promise16NotTooWide() {
        StackMarks s = notesAt(0, 100000);
        s.mark(0, 0, 400, 3);
        check.due("wide(0)", s.wide(0), 0);
    }

    /** "A MARK of a KIND with LIE 1" */
    private static void promise16OnlyWithLie1() {
        StackMarks s = notesAt(100, 120);
        s.mark(0, 7, 400, 3);
        check.due("wide(0), centred", s.wide(0), 0);
        s.set(7, 2, 1);
        check.due("wide(0), from x", s.wide(0), 384);
        s.set(7, 2, 0);
        check.due("wide(0), centred again", s.wide(0), 0);
    }

    private static void promise16PlacesDoNotMatter() {
        StackMarks s = notesAt(100, 120);
        s.mark(0, 0, 30, 3);
        check.due("wide(0) ahead of place()", s.wide(0), 14);
        s.place();
        check.due("wide(0) behind place()", s.wide(0), 14);
        check.due("count(3)", s.count(3), 1);
    }

    /** "BAD (.. or there is no such thing)" */
    private static void promise16ThereIsNoSuchMark() {
        StackMarks s = notesAt(100, 110);
        s.mark(0, 0, 30, 3);
        for (int mark : Check.beyond(0, 0)) {
            check.bad("wide(" + mark + ")", s.wide(mark));
        }
        check.bad("wide(79)", s.wide(79));
        check.bad("wide(80)", s.wide(80));
        s.drop(0);
        check.bad("wide(0), dropped", s.wide(0));
    }

    /** "The next ITEM and all behind it go to the right by what a MARK lacks: by how much" */
    private static void promise17NextAndAllBehindItMove() {
        StackMarks s = notesAt(300, 100, 120, 50);
        s.mark(1, 0, 30, 3);
        check.due("push(0)", s.push(0), 14);
        xAre(s, 314, 100, 134, 50);
        check.due("wide(0) behind it", s.wide(0), 0);
        check.due("push(0) again", s.push(0), 0);
        xAre(s, 314, 100, 134, 50);
    }

    private static void promise17PushByOne() {
        StackMarks s = notesAt(10, 20, 21);
        s.mark(0, 0, 7, 3);
        check.due("push(0)", s.push(0), 1);
        xAre(s, 10, 21, 22);
    }

    private static void promise17MarksGoWithTheirItems() {
        StackMarks s = notesAt(100, 120);
        s.mark(0, 0, 30, 3);
        s.mark(1, 0, 30, 3);
        s.push(0);
        s.place();
        check.due("left of the mark that pushed", s.at(0, 0), 100);
        check.due("left of the mark at the moved item", s.at(1, 0), 134);
    }

    private static void promise17FortyItems() {
        StackMarks s = new StackMarks();
        for (int i = 0; i < 40; i++) {
            s.rest(1000 - 20 * i, 0, 0);
        }
        s.set(0, 2, 1);
        s.mark(39, 0, 400, 3); // of the first by x, 220
        check.due("push(0)", s.push(0), 384);
        check.due("item(39, 0)", s.item(39, 0), 220);
        for (int i = 0; i < 39; i++) {
            check.due("item(" + i + ", 0)", s.item(i, 0), 1384 - 20 * i);
        }
    }

    /** "(0: nothing changes)" */
    private static void promise17NothingChangesAt0() {
        StackMarks s = notesAt(0, 10);
        s.mark(0, 0, 6, 3);
        s.mark(1, 0, 400, 3);
        s.mark(0, 1, 400, 3);
        s.place();
        check.due("push(0): just not too wide", s.push(0), 0);
        check.due("push(1): no next item", s.push(1), 0);
        check.due("push(2): centred", s.push(2), 0);
        xAre(s, 0, 10);
        check.due("count(3)", s.count(3), 1);
    }

    /** "FULL: one would go beyond 100000" */
    private static void promise17UpTo100000() {
        StackMarks s = notesAt(0, 10, 99900);
        s.mark(0, 0, 107, 3); // lacks 101
        s.mark(0, 0, 106, 3); // lacks 100
        check.due("push(0): to 100001", s.push(0), FULL);
        xAre(s, 0, 10, 99900);
        check.due("push(1): to 100000", s.push(1), 100);
        xAre(s, 0, 110, 100000);
        check.due("push(0): by 1 from 100000", s.push(0), FULL);
        xAre(s, 0, 110, 100000);
    }

    /** "FULL: one would go beyond 100000": the last by x, not by number */
    private static void promise17UpTo100000WhicheverNumber() {
        StackMarks s = notesAt(100000, 0, 10);
        s.mark(1, 0, 7, 3);
        check.due("push(0)", s.push(0), FULL);
        xAre(s, 100000, 0, 10);
    }

    private static void promise17NothingToMoveAt100000() {
        StackMarks s = notesAt(99996, 100000);
        s.mark(0, 1, 400, 3);
        s.mark(1, 0, 400, 3);
        check.due("push(0): centred", s.push(0), 0);
        check.due("push(1): no next item", s.push(1), 0);
    }

    /** "BAD (.. or there is no such thing)" */
    private static void promise17ThereIsNoSuchMark() {
        StackMarks s = notesAt(0, 10);
        s.mark(0, 0, 107, 3);
        for (int mark : Check.beyond(0, 0)) {
            check.bad("push(" + mark + ")", s.push(mark));
        }
        check.bad("push(79)", s.push(79));
        check.bad("push(80)", s.push(80));
        s.drop(0);
        check.bad("push(0), dropped", s.push(0));
        xAre(s, 0, 10);
    }
}
