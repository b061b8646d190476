/** Promises 8 and 11: slur, slurAt. */
public final class SlursTest {
    private static final int FULL = Check.FULL;
    private static final Check check = new Check();

    public static void main(String[] args) {
        check.runAll(SlursTest.class);
    }

    /** By x: 1, 0, 2. */
    private static StackMarks threeItems() {
        StackMarks s = new StackMarks();
        s.note(100, 0, 0, 0, 0);
        s.note(50, 0, 0, 0, 0);
        s.rest(150, 0, 0);
        return s;
    }

    private static StackMarks withSlurs(int many) {
        StackMarks s = threeItems();
        for (int i = 0; i < many; i++) {
            check.due("slur " + i, s.slur(1, 2, 1, 20), i);
        }
        return s;
    }

    private static void slurIs(StackMarks s, int slur, int inner, int outer) {
        check.due("slurAt(" + slur + ", 0)", s.slurAt(slur, 0), inner);
        check.due("slurAt(" + slur + ", 1)", s.slurAt(slur, 1), outer);
    }

    private static void promise8NumberedAsTheyCome() {
        StackMarks s = threeItems();
        check.due("slur(1, 2, 1, 3)", s.slur(1, 2, 1, 3), 0);
        check.due("slur(1, 0, -1, 1)", s.slur(1, 0, -1, 1), 1);
        check.due("the first once more", s.slur(1, 2, 1, 3), 2);
        check.due("count(2)", s.count(2), 3);
    }

    /** "SLURS, 10 at most"; "FULL" */
    private static void promise8TenAtMost() {
        StackMarks s = withSlurs(9);
        check.due("the 10th", s.slur(1, 0, -1, 1), 9);
        check.due("an 11th", s.slur(1, 0, -1, 1), FULL);
        check.due("count(2)", s.count(2), 10);
    }

    private static void promise8AllTenArePlaced() {
        StackMarks s = withSlurs(10);
        s.place();
        slurIs(s, 0, 21, 41);
        slurIs(s, 9, 18 + 9 * 26 + 3, 18 + 9 * 26 + 23);
        check.due("skyline(100, 1)", s.skyline(100, 1), 18 + 10 * 26);
    }

    /** "BAD: also the second ITEM's x is not greater" */
    private static void promise8SecondXIsNotGreater() {
        StackMarks s = threeItems();
        check.bad("from an item to itself", s.slur(0, 0, 1, 1));
        check.bad("to the left, though the number is greater", s.slur(0, 1, 1, 1));
        check.bad("to the left", s.slur(2, 0, 1, 1));
        check.due("to the right, though the number is less", s.slur(1, 0, 1, 1), 0);
        s.note(101, 0, 0, 0, 0);
        check.bad("to the left by 1", s.slur(3, 0, 1, 1));
        check.due("to the right by 1", s.slur(0, 3, 1, 1), 1);
    }

    /** "BAD (.. or there is no such thing)" */
    private static void promise8ThereIsNoSuchItem() {
        StackMarks s = threeItems();
        for (int item : Check.beyond(0, 2)) {
            check.bad("from " + item, s.slur(item, 2, 1, 1));
            check.bad("to " + item, s.slur(1, item, 1, 1));
            check.bad("from and to " + item, s.slur(item, item, 1, 1));
        }
        check.bad("to 40", s.slur(1, 40, 1, 1));
        check.due("count(2)", s.count(2), 0);
    }

    /** "above (1) or below (-1)" */
    private static void promise8SideIs1OrMinus1() {
        StackMarks s = threeItems();
        check.due("side 1", s.slur(1, 2, 1, 1), 0);
        check.due("side -1", s.slur(1, 2, -1, 1), 1);
        check.bad("side 0", s.slur(1, 2, 0, 1));
        for (int side : Check.beyond(-1, 1)) {
            check.bad("side " + side, s.slur(1, 2, side, 1));
        }
    }

    /** "with a THICKNESS (1 .. 20)" */
    private static void promise8ThicknessFrom1To20() {
        StackMarks s = threeItems();
        check.due("thickness 1", s.slur(1, 2, 1, 1), 0);
        check.due("thickness 20", s.slur(1, 2, -1, 20), 1);
        for (int thickness : Check.beyond(1, 20)) {
            check.bad("thickness " + thickness, s.slur(1, 2, 1, thickness));
        }
        s.place();
        slurIs(s, 0, 21, 22);
        slurIs(s, 1, 21, 41);
    }

    /** "its inner height is 3 beyond the greatest height .. there, its outer one THICKNESS more" */
    private static void promise11InnerAndOuterHeight() {
        StackMarks s = new StackMarks();
        s.note(10, -40, -40, 0, -1);
        s.note(50, 30, 30, 0, 1);
        s.note(90, 0, 0, 0, 0);
        s.slur(0, 2, 1, 5);
        s.slur(0, 2, -1, 4);
        s.place();
        slurIs(s, 0, 61, 66); // over the stem at 50, which reaches 58
        slurIs(s, 1, 71, 75); // below the stem at 10, which reaches 68
    }

    /** Two notes at 10 and 30 with a slur above; a high note at x beside or between them. */
    private static StackMarks highNoteAt(int x) {
        StackMarks s = new StackMarks();
        s.note(10, 0, 0, 0, 0);
        s.note(30, 0, 0, 0, 0);
        s.note(x, 40, 40, 0, 0);
        s.slur(0, 1, 1, 5);
        s.place();
        return s;
    }

    /** "from its first ITEM's x to its second's (both with it): .. the greatest height .. there" */
    private static void promise11WhatLiesFromItsFirstXToItsSecond() {
        slurIs(highNoteAt(20), 0, 47, 52); // between
        slurIs(highNoteAt(4), 0, 47, 52); // covers up to 10
        slurIs(highNoteAt(3), 0, 21, 26); // covers up to 9
        slurIs(highNoteAt(36), 0, 47, 52); // covers from 30
        slurIs(highNoteAt(37), 0, 21, 26); // covers from 31
    }

    /** "then the SKYLINE there is 3 beyond that", "(both with it)" */
    private static void promise11SkylineIs3BeyondIt() {
        StackMarks s = threeItems();
        s.slur(1, 0, 1, 5);
        s.place();
        int[][] due = {{49, 18}, {50, 29}, {51, 29}, {99, 29}, {100, 29}, {101, 18}};
        for (int[] d : due) {
            check.due("skyline(" + d[0] + ", 1)", s.skyline(d[0], 1), d[1]);
        }
        check.due("skyline(50, -1)", s.skyline(50, -1), 18);
    }

    /** "(both with it)": slurs that have one x alone in common */
    private static void promise11OneXInCommon() {
        StackMarks s = threeItems();
        s.slur(1, 0, 1, 5);
        s.slur(0, 2, 1, 5);
        s.place();
        slurIs(s, 0, 21, 26);
        slurIs(s, 1, 32, 37);
        int[][] due = {{99, 29}, {100, 40}, {150, 40}, {151, 18}};
        for (int[] d : due) {
            check.due("skyline(" + d[0] + ", 1)", s.skyline(d[0], 1), d[1]);
        }
    }

    private static void promise11NoXInCommon() {
        StackMarks s = threeItems();
        s.note(101, 0, 0, 0, 0);
        s.slur(1, 0, 1, 5);
        s.slur(3, 2, 1, 5);
        s.place();
        slurIs(s, 0, 21, 26);
        slurIs(s, 1, 21, 26);
    }

    /** "First SLURS by numbers" */
    private static void promise11ByNumbers() {
        StackMarks s = threeItems();
        s.slur(1, 2, 1, 5);
        s.slur(1, 0, 1, 2);
        s.place();
        slurIs(s, 0, 21, 26);
        slurIs(s, 1, 32, 34); // the shorter one lies beyond, as it came later
    }

    /** "its side's SKYLINE" */
    private static void promise11TheOtherSideMakesNoRoom() {
        StackMarks s = threeItems();
        s.slur(1, 2, -1, 20);
        s.slur(1, 2, 1, 5);
        s.place();
        slurIs(s, 0, 21, 41);
        slurIs(s, 1, 21, 26);
    }

    private static void promise11GoesWithItsItems() {
        StackMarks s = new StackMarks();
        s.note(10, 0, 0, 0, 0);
        s.note(20, 0, 0, 0, 0);
        s.slur(0, 1, 1, 5);
        s.set(0, 2, 1);
        s.mark(0, 0, 16, 1);
        check.due("push(0)", s.push(0), 10);
        s.place();
        check.due("skyline(30, 1)", s.skyline(30, 1), 29);
        check.due("skyline(31, 1)", s.skyline(31, 1), 18);
    }

    /** "0 its inner, 1 its outer height. BAD." */
    private static void promise11WhatIs0Or1() {
        StackMarks s = withSlurs(1);
        s.place();
        slurIs(s, 0, 21, 41);
        for (int what : Check.beyond(0, 1)) {
            check.bad("slurAt(0, " + what + ")", s.slurAt(0, what));
        }
    }

    /** "BAD (.. or there is no such thing)" */
    private static void promise11ThereIsNoSuchSlur() {
        StackMarks s = withSlurs(2);
        s.place();
        for (int slur : Check.beyond(0, 1)) {
            check.bad("slurAt(" + slur + ", 0)", s.slurAt(slur, 0));
        }
        StackMarks full = withSlurs(10);
        full.place();
        check.bad("slurAt(10, 0) of 10", full.slurAt(10, 0));
    }
}
