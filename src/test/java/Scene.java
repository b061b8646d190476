/** A small staff with something of everything, for tests of what changes it and what does not. */
final class Scene {
    static final int ITEMS = 3, MARKS = 4, SLURS = 2;

    private Scene() {
    }

    /** Mark 2 is not too wide; mark 3 is, but has no room to push. */
    static StackMarks make() {
        StackMarks s = new StackMarks();
        s.note(10, -20, 30, 0, 1);
        s.note(40, 0, 0, 0, -1);
        s.rest(99990, 5, 0);
        s.set(1, 4, 1);
        s.set(2, 2, 1);
        s.slur(0, 1, 1, 4);
        s.slur(0, 2, -1, 4);
        s.mark(0, 1, 10, 5);
        s.mark(0, 1, 10, 5);
        s.mark(1, 2, 9, 4);
        s.mark(0, 2, 300, 4);
        return s;
    }

    static StackMarks makePlaced() {
        StackMarks s = make();
        s.place();
        return s;
    }

    /** The scene with 40 items, 80 marks and 10 slurs: nothing more can come. */
    static StackMarks makeFull() {
        StackMarks s = make();
        for (int i = ITEMS; i < 40; i++) {
            s.note(1000 + i * 20, 0, 0, 0, 0);
        }
        for (int i = MARKS; i < 80; i++) {
            s.mark(2, 9, 1, 1);
        }
        for (int i = SLURS; i < 10; i++) {
            s.slur(1, 2, 1, 1);
        }
        return s;
    }

    /** All that can be asked of it. */
    static String look(StackMarks s) {
        return Snapshot.of(s, ITEMS, MARKS, SLURS);
    }
}
