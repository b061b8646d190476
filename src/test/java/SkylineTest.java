/** Promise 12: skyline, and what is covered by which thing. */
public final class SkylineTest {
    private static final Check check = new Check();

    public static void main(String[] args) {
        check.runAll(SkylineTest.class);
    }

    /** The pairs are an x and the height that is due there. */
    private static void skylineIs(StackMarks s, int side, int... pairs) {
        for (int i = 0; i + 1 < pairs.length; i += 2) {
            check.due("skyline(" + pairs[i] + ", " + side + ")", s.skyline(pairs[i], side), pairs[i + 1]);
        }
    }

    private static StackMarks oneNote(int x, int low, int high, int stem) {
        StackMarks s = new StackMarks();
        s.note(x, low, high, 0, stem);
        s.place();
        return s;
    }

    private static StackMarks oneRest(int x, int y) {
        StackMarks s = new StackMarks();
        s.rest(x, y, 0);
        s.place();
        return s;
    }

    /** A note with one mark above, from its x or centred. */
    private static StackMarks oneMark(int x, int lie, int width, int height) {
        StackMarks s = new StackMarks();
        s.note(x, 0, 0, 0, 0);
        s.set(0, 1, 2);
        s.set(0, 2, lie);
        s.mark(0, 0, width, height);
        s.place();
        return s;
    }

    /** "above, at first 18 (the staff's top is 16) everywhere; below -18" */
    private static void promise12AtFirst18Everywhere() {
        StackMarks s = new StackMarks();
        s.place();
        skylineIs(s, 1, 0, 18, 1, 18, 50000, 18, 100000, 18, 101000, 18);
        skylineIs(s, -1, 0, 18, 1, 18, 50000, 18, 100000, 18, 101000, 18);
    }

    /** "at x (0 .. 101000)" */
    private static void promise12XFrom0To101000() {
        StackMarks s = oneNote(0, -30, 30, 0);
        skylineIs(s, 1, 0, 34, 101000, 18);
        skylineIs(s, -1, 0, 34, 101000, 18);
        for (int x : Check.beyond(0, 101000)) {
            check.bad("skyline(" + x + ", 1)", s.skyline(x, 1));
            check.bad("skyline(" + x + ", -1)", s.skyline(x, -1));
        }
    }

    /** "of a side (1, -1)" */
    private static void promise12SideIs1OrMinus1() {
        StackMarks s = oneNote(100, -40, 30, 0);
        skylineIs(s, 1, 100, 34);
        skylineIs(s, -1, 100, 44);
        check.bad("skyline(100, 0)", s.skyline(100, 0));
        for (int side : Check.beyond(-1, 1)) {
            check.bad("skyline(100, " + side + ")", s.skyline(100, side));
        }
    }

    /** "A NOTE covers x - 6 to x + 6, up to 4 above, below its HEADS" "(All with their ends.)" */
    private static void promise12WhatANoteCovers() {
        StackMarks s = oneNote(300, -40, 50, 0);
        skylineIs(s, 1, 293, 18, 294, 54, 300, 54, 306, 54, 307, 18);
        skylineIs(s, -1, 293, 18, 294, 44, 300, 44, 306, 44, 307, 18);
    }

    /** "its STEM x - 1 to x + 1, up to 28 above the highest .. one" "(All with their ends.)" */
    private static void promise12WhatAStemUpCovers() {
        StackMarks s = oneNote(100, -30, 30, 1);
        skylineIs(s, 1, 98, 34, 99, 58, 100, 58, 101, 58, 102, 34);
        skylineIs(s, -1, 98, 34, 99, 34, 100, 34, 101, 34, 102, 34);
    }

    /** "its STEM x - 1 to x + 1, up to 28 .. (below the lowest) one" "(All with their ends.)" */
    private static void promise12WhatAStemDownCovers() {
        StackMarks s = oneNote(100, -30, 30, -1);
        skylineIs(s, -1, 98, 34, 99, 58, 100, 58, 101, 58, 102, 34);
        skylineIs(s, 1, 98, 34, 99, 34, 100, 34, 101, 34, 102, 34);
    }

    /** "A REST covers x - 5 to x + 5, up to 8 above and below." "(All with their ends.)" */
    private static void promise12WhatARestCovers() {
        skylineIs(oneRest(100, 20), 1, 94, 18, 95, 28, 100, 28, 105, 28, 106, 18);
        skylineIs(oneRest(100, 20), -1, 94, 18, 95, 18, 100, 18, 105, 18, 106, 18);
        skylineIs(oneRest(100, -20), -1, 94, 18, 95, 28, 100, 28, 105, 28, 106, 18);
        skylineIs(oneRest(100, -20), 1, 94, 18, 95, 18, 100, 18, 105, 18, 106, 18);
    }

    /** What lies within the staff's 18 adds nothing; 1 beyond it does. */
    private static void promise12UpTo18AndBeyond() {
        skylineIs(oneNote(100, -14, 14, 0), 1, 100, 18);
        skylineIs(oneNote(100, -14, 14, 0), -1, 100, 18);
        skylineIs(oneNote(100, -15, 15, 0), 1, 100, 19);
        skylineIs(oneNote(100, -15, 15, 0), -1, 100, 19);
        skylineIs(oneRest(100, 10), 1, 100, 18);
        skylineIs(oneRest(100, 11), 1, 100, 19);
        skylineIs(oneRest(100, -11), -1, 100, 19);
    }

    private static void promise12HeadsAtTheirBounds() {
        StackMarks up = oneNote(100, 60, 60, 1);
        skylineIs(up, 1, 100, 88, 102, 64);
        skylineIs(up, -1, 100, 18, 102, 18);
        StackMarks down = oneNote(100, -60, -60, -1);
        skylineIs(down, -1, 100, 88, 102, 64);
        skylineIs(down, 1, 100, 18, 102, 18);
        skylineIs(oneRest(100, 60), 1, 100, 68);
        skylineIs(oneRest(100, -60), -1, 100, 68);
    }

    private static void promise12ItemsAtTheirBounds() {
        skylineIs(oneNote(0, 0, 30, 1), 1, 0, 58, 1, 58, 2, 34, 6, 34, 7, 18);
        skylineIs(oneRest(0, 30), 1, 0, 38, 5, 38, 6, 18);
        skylineIs(oneNote(100000, 0, 30, 1), 1,
                99993, 18, 99994, 34, 99999, 58, 100001, 58, 100002, 34, 100006, 34, 100007, 18);
    }

    /** "for each x what is covered outermost there" */
    private static void promise12WhatIsOutermost() {
        StackMarks s = new StackMarks();
        s.note(100, 0, 40, 0, 0);
        s.note(104, 0, 30, 0, 0);
        s.rest(110, 50, 0);
        s.place();
        skylineIs(s, 1, 93, 18, 94, 44, 97, 44, 98, 44, 104, 44, 105, 58, 106, 58, 110, 58, 115, 58, 116, 18);
    }

    /** "A MARK covers .. [left, left + WIDTH)"; "Then the SKYLINE in what it covers .. is its OUTER height." */
    private static void promise12WhatAMarkCovers() {
        skylineIs(oneMark(100, 0, 7, 5), 1, 96, 18, 97, 25, 100, 25, 103, 25, 104, 18);
        skylineIs(oneMark(100, 1, 7, 5), 1, 99, 18, 100, 25, 106, 25, 107, 18);
        skylineIs(oneMark(100, 1, 1, 1), 1, 99, 18, 100, 21, 101, 18);
        skylineIs(oneMark(100, 1, 1, 1), -1, 100, 18);
    }

    /** "(without PAD)" */
    private static void promise12WithoutPad() {
        StackMarks s = oneMark(100, 0, 6, 5);
        skylineIs(s, 1, 96, 18, 97, 25, 102, 25, 103, 18);
    }

    private static void promise12MarksAtTheirBounds() {
        skylineIs(oneMark(0, 0, 400, 40), 1, 0, 60, 199, 60, 200, 18);
        skylineIs(oneMark(100000, 1, 400, 5), 1, 99999, 18, 100000, 25, 100399, 25, 100400, 18, 101000, 18);
    }

    /** "behind all" */
    private static void promise12BehindAll() {
        StackMarks s = new StackMarks();
        s.note(100, 0, 0, 0, 0);
        s.note(200, 0, 0, 0, 0);
        s.slur(0, 1, 1, 4);
        s.set(0, 1, 2);
        s.set(0, 4, 1);
        s.mark(0, 0, 6, 5);
        s.mark(0, 0, 2, 7);
        s.mark(1, 0, 6, 1);
        check.due("place()", s.place(), 1);
        // the slur up to 28, the row from 30, the late mark 2 beyond its first
        skylineIs(s, 1, 96, 18, 97, 35, 98, 35, 99, 44, 100, 44, 101, 35, 103, 28, 196, 28, 197, 31, 202, 31, 203, 18);
    }
}
