/** Promise 10: at; a mark's edges, side, heights and turn. */
public final class AtTest {
    private static final Check check = new Check();

    public static void main(String[] args) {
        check.runAll(AtTest.class);
    }

    private static void atIs(StackMarks s, int what, int... due) {
        for (int mark = 0; mark < due.length; mark++) {
            check.due("at(" + mark + ", " + what + ")", s.at(mark, what), due[mark]);
        }
    }

    private static StackMarks oneMark(int x, int lie, int width) {
        StackMarks s = new StackMarks();
        s.note(x, 0, 0, 0, 0);
        s.set(0, 2, lie);
        s.mark(0, 0, width, 2);
        s.place();
        return s;
    }

    private static void edgesAre(int x, int lie, int width, int left) {
        StackMarks s = oneMark(x, lie, width);
        String at = "x " + x + ", LIE " + lie + ", WIDTH " + width;
        check.due(at + ": left", s.at(0, 0), left);
        check.due(at + ": behind the right", s.at(0, 1), left + width);
    }

    /** "0 centred: its left edge at x - WIDTH / 2, cut off" */
    private static void promise10Centred() {
        edgesAre(100, 0, 1, 100);
        edgesAre(100, 0, 2, 99);
        edgesAre(100, 0, 3, 99);
        edgesAre(100, 0, 8, 96);
        edgesAre(100, 0, 9, 96);
        edgesAre(100, 0, 399, -99);
        edgesAre(100, 0, 400, -100);
    }

    private static void promise10CentredAtTheBoundsOfX() {
        edgesAre(0, 0, 1, 0);
        edgesAre(0, 0, 3, -1);
        edgesAre(1, 0, 9, -3);
        edgesAre(0, 0, 400, -200);
        edgesAre(100000, 0, 400, 99800);
    }

    /** "1 its left edge at x" */
    private static void promise10FromX() {
        edgesAre(100, 1, 1, 100);
        edgesAre(100, 1, 400, 100);
        edgesAre(0, 1, 1, 0);
        edgesAre(100000, 1, 400, 100000);
    }

    /** The item has a mark of each SIDE, 0 to 3; what is due is the side where each of them lies. */
    private static void sidesAre(StackMarks s, int item, int... due) {
        int first = 0;
        for (int side = 0; side <= 3; side++) {
            s.set(side, 1, side);
            int mark = s.mark(item, side, 2, 2);
            first = side == 0 ? mark : first;
        }
        s.place();
        for (int side = 0; side <= 3; side++) {
            check.due("item " + item + ", SIDE " + side, s.at(first + side, 2), due[side]);
        }
    }

    /** "a SIDE (0 with the STEM's end, 1 away from it, 2 above, 3 below ..)" */
    private static void promise10SideByStem() {
        for (int voice = 0; voice <= 1; voice++) {
            StackMarks s = new StackMarks();
            s.note(10, 0, 0, voice, 1);
            s.note(30, 0, 0, voice, -1);
            sidesAre(s, 0, 1, -1, 1, -1);
            sidesAre(s, 1, -1, 1, 1, -1);
        }
    }

    /** "an ITEM without STEM counts as one with STEM up if its VOICE is 0" */
    private static void promise10WithoutStemInVoice0() {
        StackMarks s = new StackMarks();
        s.note(10, 0, 0, 0, 0);
        s.rest(30, 0, 0);
        sidesAre(s, 0, 1, -1, 1, -1);
        sidesAre(s, 1, 1, -1, 1, -1);
    }

    /** "down if it is 1" */
    private static void promise10WithoutStemInVoice1() {
        StackMarks s = new StackMarks();
        s.note(10, 0, 0, 1, 0);
        s.rest(30, 0, 1);
        sidesAre(s, 0, -1, 1, 1, -1);
        sidesAre(s, 1, -1, 1, 1, -1);
    }

    /** "when ITEMS of both VOICES are there, 0 and 1 are by VOICE alone: 0 above, 1 below" */
    private static void promise10SideByVoice() {
        StackMarks s = new StackMarks();
        s.note(10, 0, 0, 0, -1);
        s.note(30, 0, 0, 1, 1);
        s.note(50, 0, 0, 0, 0);
        s.rest(70, 0, 1);
        sidesAre(s, 0, 1, 1, 1, -1);
        sidesAre(s, 1, -1, -1, 1, -1);
        sidesAre(s, 2, 1, 1, 1, -1);
        sidesAre(s, 3, -1, -1, 1, -1);
    }

    /** "when ITEMS of both VOICES are there": one of the other voice is enough, be it far away */
    private static void promise10OneItemOfTheOtherVoice() {
        StackMarks one = new StackMarks();
        one.note(10, 0, 0, 0, -1);
        one.note(30, 0, 0, 0, -1);
        one.rest(100000, 0, 1);
        sidesAre(one, 0, 1, 1, 1, -1);
        StackMarks zero = new StackMarks();
        zero.rest(0, 0, 0);
        zero.note(99990, 0, 0, 1, 1);
        zero.note(100000, 0, 0, 1, 1);
        sidesAre(zero, 2, -1, -1, 1, -1);
    }

    /** Marks that are there already change their side when an item of the other voice comes. */
    private static void promise10TheOtherVoiceComesLater() {
        StackMarks s = new StackMarks();
        s.note(10, 0, 0, 0, -1);
        s.set(0, 1, 0);
        s.mark(0, 0, 2, 2);
        s.mark(0, 1, 2, 2);
        s.place();
        atIs(s, 2, -1, 1);
        s.rest(50, 0, 1);
        s.place();
        atIs(s, 2, 1, 1);
    }

    /** A high note at 100 covers 94 .. 106 up to 44; a mark from x, 5 wide, with a GAP. */
    private static StackMarks markBeside(int x, int gap) {
        StackMarks s = new StackMarks();
        s.note(100, 40, 40, 0, 0);
        s.note(x, 0, 0, 0, 0);
        s.set(0, 1, 2);
        s.set(0, 2, 1);
        s.set(0, 3, gap);
        s.mark(1, 0, 5, 4);
        s.place();
        return s;
    }

    /** "within what it covers and PAD 1 to each side" */
    private static void promise10PadToTheLeft() {
        check.due("1 behind the note's cover", markBeside(107, 2).at(0, 3), 46);
        check.due("2 behind the note's cover", markBeside(108, 2).at(0, 3), 20);
    }

    /** "within what it covers and PAD 1 to each side" */
    private static void promise10PadToTheRight() {
        check.due("its last x 1 ahead of the note's cover", markBeside(89, 2).at(0, 3), 46);
        check.due("its last x 2 ahead of the note's cover", markBeside(88, 2).at(0, 3), 20);
    }

    /** "Its INNER height is GAP beyond the greatest height", "a GAP (0 .. 20 ..)" */
    private static void promise10GapFrom0To20() {
        check.due("GAP 0", markBeside(107, 0).at(0, 3), 44);
        check.due("GAP 1", markBeside(107, 1).at(0, 3), 45);
        check.due("GAP 20", markBeside(107, 20).at(0, 3), 64);
    }

    /** "its OUTER height is HEIGHT more" */
    private static void promise10OuterIsHeightMore() {
        StackMarks s = new StackMarks();
        s.note(10, 0, 0, 0, 0);
        s.mark(0, 0, 3, 1);
        s.mark(0, 1, 3, 40);
        s.place();
        atIs(s, 3, 20, 23);
        atIs(s, 4, 21, 63);
    }

    /** "its side's SKYLINE" */
    private static void promise10TheOtherSideMakesNoRoom() {
        StackMarks s = new StackMarks();
        s.note(10, -50, 0, 0, -1);
        s.set(0, 1, 2);
        s.set(1, 1, 3);
        s.mark(0, 0, 3, 5);
        s.mark(0, 1, 3, 5);
        s.place();
        atIs(s, 2, 1, -1);
        atIs(s, 3, 20, 80);
    }

    private static void promise10AllMarksAsFarOutAsCanBe() {
        StackMarks s = new StackMarks();
        s.note(50000, 60, 60, 0, 1);
        s.set(0, 1, 0);
        s.set(0, 3, 20);
        for (int i = 0; i < 80; i++) {
            s.mark(0, 0, 400, 40);
        }
        s.place();
        check.due("the last one's OUTER height", s.at(79, 4), 88 + 80 * 60);
        check.due("count(4)", s.count(4), 88 + 80 * 60);
        check.due("skyline(50199, 1)", s.skyline(50199, 1), 88 + 80 * 60);
    }

    private static void promise10EverythingIsThereAtOnce() {
        StackMarks s = new StackMarks();
        for (int i = 0; i < 40; i++) {
            s.note(i * 20, 20, 20, 0, 1);
        }
        s.set(0, 1, 2);
        for (int i = 0; i < 10; i++) {
            s.slur(0, 39, 1, 1);
        }
        for (int i = 0; i < 80; i++) {
            s.mark(i % 40, 0, 1, 1);
        }
        check.due("place()", s.place(), 0);
        // notes up to 48, slurs 7 each, two marks 3 each
        check.due("the last slur's outer height", s.slurAt(9, 1), 48 + 10 * 7 - 3);
        check.due("the first mark's INNER height", s.at(0, 3), 48 + 70 + 2);
        check.due("the last mark's OUTER height", s.at(79, 4), 48 + 70 + 6);
        check.due("the last mark's turn", s.at(79, 6), 79);
        check.due("the first one's turn", s.at(0, 6), 0);
        for (int i = 0; i < 40; i++) {
            check.due("skyline over item " + i, s.skyline(i * 20, 1), 48 + 70 + 6);
            check.due("skyline beside item " + i, s.skyline(i * 20 + 1, 1), i == 39 ? 48 : 48 + 70);
        }
    }

    /** Items 0 at 300, 1 at 100, 2 at 200; marks of an item and a kind each. */
    private static StackMarks marksOf(int[]... itemsAndKinds) {
        StackMarks s = new StackMarks();
        s.note(300, 0, 0, 0, 0);
        s.note(100, 0, 0, 0, 0);
        s.note(200, 0, 0, 0, 0);
        for (int[] m : itemsAndKinds) {
            s.mark(m[0], m[1], 4, 4);
        }
        return s;
    }

    /** "6 which one it was in PLACING (0 the first)", "not OUTER ones first, then OUTER ones" */
    private static void promise10OuterOnesCameLast() {
        StackMarks s = marksOf(new int[] {1, 0}, new int[] {0, 9}, new int[] {0, 1}, new int[] {2, 0});
        s.set(0, 5, 1);
        s.place();
        atIs(s, 6, 2, 1, 0, 3);
    }

    /** "of these by their KIND's ORDER" */
    private static void promise10ByOrder() {
        StackMarks s = marksOf(new int[] {1, 3}, new int[] {0, 2}, new int[] {0, 9}, new int[] {0, 0});
        s.place();
        atIs(s, 6, 2, 1, 3, 0);
        s.set(9, 0, 0);
        s.set(0, 0, 9);
        s.place();
        atIs(s, 6, 2, 1, 0, 3);
    }

    /** "then by x of their ITEM" */
    private static void promise10ByX() {
        StackMarks s = marksOf(new int[] {0, 5}, new int[] {1, 5}, new int[] {2, 5});
        s.place();
        atIs(s, 6, 2, 0, 1);
    }

    /** "then by x of their ITEM": also among kinds of one ORDER */
    private static void promise10ByXAmongKindsOfOneOrder() {
        StackMarks s = marksOf(new int[] {0, 4}, new int[] {1, 5}, new int[] {2, 4});
        s.set(5, 0, 4);
        s.place();
        atIs(s, 6, 2, 0, 1);
    }

    /** "then by number": also among kinds of one ORDER */
    private static void promise10ByNumber() {
        StackMarks s = marksOf(new int[] {0, 5}, new int[] {0, 4}, new int[] {0, 5}, new int[] {0, 4});
        s.set(5, 0, 4);
        s.place();
        atIs(s, 6, 0, 1, 2, 3);
    }

    /** The least ORDER at the greatest x comes ahead of the next ORDER at the least x. */
    private static void promise10OrderGoesAheadOfX() {
        StackMarks s = new StackMarks();
        s.note(100000, 0, 0, 0, 0);
        s.note(0, 0, 0, 0, 0);
        s.set(0, 5, 1);
        s.mark(1, 0, 4, 4); // OUTER, with the least ORDER and the least x
        s.mark(0, 9, 4, 4);
        s.mark(1, 9, 4, 4);
        s.mark(0, 8, 4, 4);
        s.place();
        atIs(s, 6, 3, 2, 1, 0);
    }

    /** "(0 the first)": slurs are placed ahead of marks, but are not counted among them */
    private static void promise10SlursDoNotCountAsTurns() {
        StackMarks s = marksOf(new int[] {0, 5});
        s.slur(1, 0, 1, 1);
        s.place();
        atIs(s, 6, 0);
    }

    /** "5 whether it lies in its KIND's ROW (1, 0)" */
    private static void promise10WhetherItLiesInARow() {
        StackMarks s = marksOf(new int[] {0, 5}, new int[] {0, 5}, new int[] {0, 4});
        s.set(5, 4, 1);
        s.place();
        atIs(s, 5, 1, 0, 0); // in the row, late, of a kind in no row
        s.set(5, 4, 0);
        s.place();
        atIs(s, 5, 0, 0, 0);
    }

    /** "0 its left edge, .. 6 which one it was in PLACING .. BAD." */
    private static void promise10WhatFrom0To6() {
        StackMarks s = oneMark(100, 0, 5);
        int[] due = {98, 103, -1, 20, 22, 0, 0};
        for (int what = 0; what <= 6; what++) {
            check.due("at(0, " + what + ")", s.at(0, what), due[what]);
        }
        for (int what : Check.beyond(0, 6)) {
            check.bad("at(0, " + what + ")", s.at(0, what));
        }
    }

    /** "BAD (.. or there is no such thing)" */
    private static void promise10ThereIsNoSuchMark() {
        StackMarks s = marksOf(new int[] {0, 5}, new int[] {1, 5});
        s.place();
        for (int mark : Check.beyond(0, 1)) {
            check.bad("at(" + mark + ", 0)", s.at(mark, 0));
        }
        check.bad("at(79, 0)", s.at(79, 0));
        check.bad("at(80, 0)", s.at(80, 0));
        s.drop(0);
        s.place();
        check.bad("at(0, 0), dropped", s.at(0, 0));
    }
}
