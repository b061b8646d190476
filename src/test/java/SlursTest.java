/** Promises 8 and 11: slur, slurAt. */
public final class SlursTest {
    private static final int BAD = Check.BAD, FULL = Check.FULL;
    private static final Check check = new Check();

    public static void main(String[] args) {
        promise8Slur();
        promise8SlurBad();
        promise8SlurFull();
        promise11Heights();
        promise11Ends();
        promise11MovesWithItems();
        promise11Refusals();
        check.end();
    }

    private static StackMarks threeNotes() {
        StackMarks s = new StackMarks();
        s.note(100, 0, 0, 0, 0);
        s.note(50, 0, 0, 0, 0);
        s.rest(150, 0, 0);
        return s;
    }

    private static void promise8Slur() {
        StackMarks s = threeNotes();
        check.due("slur(1, 0, 1, 1)", s.slur(1, 0, 1, 1), 0);
        check.due("slur(0, 2, -1, 20)", s.slur(0, 2, -1, 20), 1);
        check.due("slur(1, 2, 1, 3)", s.slur(1, 2, 1, 3), 2);
        check.due("the same once more", s.slur(1, 2, 1, 3), 3);
        check.due("count(2)", s.count(2), 4);
    }

    private static void promise8SlurBad() {
        StackMarks s = threeNotes();
        int[][] bad = {
            {0, 1, 1, 1}, {0, 0, 1, 1}, {2, 0, 1, 1}, {-1, 0, 1, 1}, {1, 3, 1, 1}, {3, 2, 1, 1},
            {1, -1, 1, 1}, {1, 0, 0, 1}, {1, 0, 2, 1}, {1, 0, -2, 1}, {1, 0, 1, 0},
            {1, 0, 1, 21}, {1, 0, 1, -1}, {Integer.MIN_VALUE, 0, 1, 1},
            {1, Integer.MAX_VALUE, 1, 1}, {1, 0, Integer.MIN_VALUE, 1}, {1, 0, 1, Integer.MAX_VALUE}
        };
        for (int[] b : bad) {
            check.due("slur(" + b[0] + ", " + b[1] + ", " + b[2] + ", " + b[3] + ")",
                    s.slur(b[0], b[1], b[2], b[3]), BAD);
        }
        check.due("count(2)", s.count(2), 0);
        check.due("the next good one", s.slur(1, 0, 1, 1), 0);
    }

    private static void promise8SlurFull() {
        StackMarks s = threeNotes();
        for (int i = 0; i < 10; i++) {
            check.due("slur " + i, s.slur(1, 2, 1, 20), i);
        }
        check.due("an 11th slur", s.slur(1, 2, 1, 20), FULL);
        check.due("an 11th slur that is BAD, too", s.slur(1, 2, 1, 21), BAD);
        check.due("an 11th slur backward", s.slur(2, 1, 1, 20), BAD);
        check.due("count(2)", s.count(2), 10);
        s.place();
        check.due("the last one's inner height", s.slurAt(9, 0), 18 + 9 * 26 + 3);
        check.due("the last one's outer height", s.slurAt(9, 1), 18 + 9 * 26 + 23);
        check.due("skyline", s.skyline(100, 1), 18 + 10 * 26);
    }

    private static void promise11Heights() {
        StackMarks s = new StackMarks();
        s.note(10, -40, -40, 0, -1);
        s.note(50, 30, 30, 0, 1);
        s.note(90, 0, 0, 0, 0);
        s.slur(0, 2, 1, 5);
        s.slur(1, 2, -1, 4);
        s.slur(0, 1, 1, 2);
        s.slur(0, 1, -1, 1);
        s.place();
        slurIs(s, 0, 61, 66); // over the stem at 50, which reaches 58
        slurIs(s, 1, 21, 25); // below nothing but the staff
        slurIs(s, 2, 72, 74); // beyond slur 0, which makes the skyline 69
        slurIs(s, 3, 71, 72); // below the stem at 10, which reaches 68; 28 of slur 1 at 50 is less
        check.due("skyline between", s.skyline(30, 1), 77);
        check.due("skyline behind slur 2", s.skyline(51, 1), 69);
        check.due("count(4)", s.count(4), 74);
        check.due("count(5)", s.count(5), 72);
    }

    private static void promise11Ends() {
        StackMarks s = new StackMarks();
        s.note(10, 0, 0, 0, 0);
        s.note(50, 0, 0, 0, 0);
        s.note(90, 0, 0, 0, 0);
        s.slur(0, 1, 1, 5);
        s.slur(1, 2, 1, 5);
        s.place();
        slurIs(s, 0, 21, 26);
        slurIs(s, 1, 32, 37); // they share x 50
        check.due("skyline(9, 1)", s.skyline(9, 1), 18);
        check.due("skyline(10, 1)", s.skyline(10, 1), 29);
        check.due("skyline(49, 1)", s.skyline(49, 1), 29);
        check.due("skyline(50, 1)", s.skyline(50, 1), 40);
        check.due("skyline(90, 1)", s.skyline(90, 1), 40);
        check.due("skyline(91, 1)", s.skyline(91, 1), 18);
        check.due("skyline(50, -1)", s.skyline(50, -1), 18);
    }

    private static void promise11MovesWithItems() {
        StackMarks s = new StackMarks();
        s.note(10, 0, 0, 0, 0);
        s.note(20, 0, 0, 0, 0);
        s.slur(0, 1, 1, 5);
        s.set(0, 2, 1);
        s.mark(0, 0, 16, 1);
        check.due("push(0)", s.push(0), 10);
        s.place();
        check.due("skyline(30, 1)", s.skyline(30, 1), 29);
        check.due("skyline(31, 1)", s.skyline(31, 1), 18);
    }

    private static void promise11Refusals() {
        StackMarks s = threeNotes();
        s.slur(1, 0, 1, 1);
        check.throwsState("slurAt(0, 0) ahead of place()", () -> s.slurAt(0, 0));
        check.due("slurAt(1, 0) ahead of place()", s.slurAt(1, 0), BAD);
        s.place();
        int[][] bad = {
            {-1, 0}, {1, 0}, {0, -1}, {0, 2}, {10, 0}, {Integer.MIN_VALUE, 0}, {0, Integer.MAX_VALUE}
        };
        for (int[] b : bad) {
            check.due("slurAt(" + b[0] + ", " + b[1] + ")", s.slurAt(b[0], b[1]), BAD);
        }
    }

    private static void slurIs(StackMarks s, int slur, int inner, int outer) {
        check.due("slurAt(" + slur + ", 0)", s.slurAt(slur, 0), inner);
        check.due("slurAt(" + slur + ", 1)", s.slurAt(slur, 1), outer);
    }
}
