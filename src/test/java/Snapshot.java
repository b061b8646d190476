/** All that can be asked of a small object without changing it, as one text. */
final class Snapshot {
    private static final int[] SOME_X = {0, 9, 10, 25, 40, 101000};

    private Snapshot() {
    }

    static String of(StackMarks s, int items, int marks, int slurs) {
        StringBuilder text = new StringBuilder();
        for (int i = 0; i < items; i++) {
            for (int what = 0; what <= 6; what++) {
                text.append(s.item(i, what)).append(' ');
            }
        }
        for (int i = 0; i < marks; i++) {
            int mark = i;
            for (int what = 0; what <= 6; what++) {
                int it = what;
                text.append(Check.outcome(() -> s.at(mark, it))).append(' ');
            }
            text.append("wide ").append(s.wide(mark)).append(' ');
        }
        for (int i = 0; i < slurs; i++) {
            int slur = i;
            text.append(Check.outcome(() -> s.slurAt(slur, 0))).append(' ');
            text.append(Check.outcome(() -> s.slurAt(slur, 1))).append(' ');
        }
        for (int x : SOME_X) {
            text.append(Check.outcome(() -> s.skyline(x, 1))).append(' ');
            text.append(Check.outcome(() -> s.skyline(x, -1))).append(' ');
        }
        for (int i = 0; i < 10; i++) {
            int kind = i;
            text.append(Check.outcome(() -> s.row(kind, 1))).append(' ');
            text.append(Check.outcome(() -> s.row(kind, -1))).append(' ');
        }
        for (int i = 0; i <= 5; i++) {
            int what = i;
            text.append("count ").append(Check.outcome(() -> s.count(what))).append(' ');
        }
        return text.toString();
    }
}
