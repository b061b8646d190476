/** Promises 16 and 17: wide, push. */
public final class PushingTest {
    private static final int BAD = Check.BAD, FULL = Check.FULL;
    private static final Check check = new Check();

    public static void main(String[] args) {
        promise16Wide();
        promise16NextByX();
        promise16OnlyWithLie();
        promise16Bad();
        promise17Push();
        promise17PushFull();
        promise17PushFullByTheFirstItem();
        promise17PushFortyItems();
        promise17PushBad();
        promise17PushKeepsPlacesIfNothingMoves();
        check.end();
    }

    private static void promise16Wide() {
        StackMarks s = new StackMarks();
        s.note(300, 0, 0, 0, 0);
        s.note(100, 0, 0, 0, 0);
        s.rest(120, 0, 1);
        s.set(0, 2, 1);
        int[][] due = {{1, 15, 0}, {1, 16, 0}, {1, 17, 1}, {1, 400, 384}, {2, 176, 0}, {2, 177, 1}, {0, 400, 0}};
        for (int i = 0; i < due.length; i++) {
            s.mark(due[i][0], 0, due[i][1], 3);
            check.due("wide(" + i + ")", s.wide(i), due[i][2]);
        }
        s.place();
        check.due("wide(3) behind place()", s.wide(3), 384);
        check.due("count(3) behind wide()", s.count(3), 1);
    }

    private static void promise16NextByX() {
        StackMarks s = new StackMarks();
        s.note(120, 0, 0, 0, 0);
        s.note(100, 0, 0, 0, 0);
        s.note(300, 0, 0, 0, 0);
        s.note(110, 0, 0, 0, 0);
        s.set(0, 2, 1);
        s.mark(1, 0, 400, 3);
        s.mark(3, 0, 400, 3);
        check.due("wide(0): the next is item 3", s.wide(0), 394);
        check.due("wide(1): the next is item 0", s.wide(1), 394);
    }

    private static void promise16OnlyWithLie() {
        StackMarks s = new StackMarks();
        s.note(100, 0, 0, 0, 0);
        s.note(120, 0, 0, 0, 0);
        s.mark(0, 7, 400, 3);
        check.due("wide(0), centred", s.wide(0), 0);
        check.due("push(0), centred", s.push(0), 0);
        s.set(7, 2, 1);
        check.due("wide(0), from x", s.wide(0), 384);
        s.set(7, 2, 0);
        check.due("wide(0), centred again", s.wide(0), 0);
    }

    private static void promise16Bad() {
        StackMarks s = new StackMarks();
        s.note(100, 0, 0, 0, 0);
        s.mark(0, 0, 4, 3);
        for (int bad : new int[] {-1, 1, 79, 80, Integer.MIN_VALUE, Integer.MAX_VALUE}) {
            check.due("wide(" + bad + ")", s.wide(bad), BAD);
        }
        s.drop(0);
        check.due("wide(0), dropped", s.wide(0), BAD);
    }

    private static void promise17Push() {
        StackMarks s = new StackMarks();
        s.note(300, 0, 0, 0, 0);
        s.note(100, 0, 0, 0, 0);
        s.rest(120, 0, 0);
        s.note(50, 0, 0, 0, 0);
        s.set(0, 2, 1);
        s.mark(1, 0, 30, 3);
        s.mark(2, 0, 30, 3);
        s.place();
        check.due("push(0)", s.push(0), 14);
        xAre(s, 314, 100, 134, 50);
        check.due("count(3)", s.count(3), 0);
        check.throwsState("at(0, 0)", () -> s.at(0, 0));
        check.due("wide(0) behind it", s.wide(0), 0);
        check.due("push(0) again", s.push(0), 0);
        xAre(s, 314, 100, 134, 50);
        s.place();
        check.due("left of the mark at the moved item", s.at(1, 0), 134);
        check.due("left of the mark that pushed", s.at(0, 0), 100);
    }

    private static void promise17PushFull() {
        StackMarks s = new StackMarks();
        s.note(0, 0, 0, 0, 0);
        s.note(10, 0, 0, 0, 0);
        s.note(99900, 0, 0, 0, 0);
        s.set(0, 2, 1);
        s.mark(0, 0, 107, 3); // lacks 101
        s.mark(0, 0, 106, 3); // lacks 100
        s.place();
        check.due("push(0)", s.push(0), FULL);
        xAre(s, 0, 10, 99900);
        check.due("count(3) behind FULL", s.count(3), 1);
        check.due("push(1)", s.push(1), 100);
        xAre(s, 0, 110, 100000);
        check.due("push(0) by 1", s.push(0), FULL);
        xAre(s, 0, 110, 100000);
    }

    private static void promise17PushFullByTheFirstItem() {
        StackMarks s = new StackMarks();
        s.note(100000, 0, 0, 0, 0);
        s.note(0, 0, 0, 0, 0);
        s.note(10, 0, 0, 0, 0);
        s.set(0, 2, 1);
        s.mark(1, 0, 7, 3);
        check.due("push(0)", s.push(0), FULL);
        xAre(s, 100000, 0, 10);
    }

    private static void promise17PushFortyItems() {
        StackMarks s = new StackMarks();
        for (int i = 0; i < 40; i++) {
            s.rest(1000 - 20 * i, 0, 0);
        }
        s.set(0, 2, 1);
        s.mark(39, 0, 400, 3); // of the first by x, 220
        check.due("wide(0)", s.wide(0), 384);
        check.due("push(0)", s.push(0), 384);
        check.due("item(39, 0)", s.item(39, 0), 220);
        for (int i = 0; i < 39; i++) {
            check.due("item(" + i + ", 0)", s.item(i, 0), 1384 - 20 * i);
        }
    }

    private static void promise17PushBad() {
        StackMarks s = new StackMarks();
        s.note(0, 0, 0, 0, 0);
        s.note(10, 0, 0, 0, 0);
        s.set(0, 2, 1);
        s.mark(0, 0, 107, 3);
        for (int bad : new int[] {-1, 1, 79, 80, Integer.MIN_VALUE, Integer.MAX_VALUE}) {
            check.due("push(" + bad + ")", s.push(bad), BAD);
        }
        s.drop(0);
        check.due("push(0), dropped", s.push(0), BAD);
        xAre(s, 0, 10);
    }

    private static void promise17PushKeepsPlacesIfNothingMoves() {
        StackMarks s = new StackMarks();
        s.note(0, 0, 0, 0, 0);
        s.note(10, 0, 0, 0, 0);
        s.set(0, 2, 1);
        s.mark(0, 0, 6, 3);
        s.mark(1, 0, 400, 3);
        s.place();
        check.due("push(0): just not too wide", s.push(0), 0);
        check.due("push(1): the last item", s.push(1), 0);
        check.due("count(3)", s.count(3), 1);
        check.due("at(0, 3)", s.at(0, 3), 20);
    }

    private static void xAre(StackMarks s, int... due) {
        for (int i = 0; i < due.length; i++) {
            check.due("item(" + i + ", 0)", s.item(i, 0), due[i]);
        }
    }
}
