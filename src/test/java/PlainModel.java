import java.util.ArrayList;
import java.util.Arrays;
import java.util.Comparator;
import java.util.List;

/**
 * A second working out of the document, with a height kept for every x and lists sorted by the
 * library, so that it shares no way of reckoning with StackMarks.
 */
final class PlainModel {
    private static final int BAD = Check.BAD, FULL = Check.FULL, NONE = Check.NONE;
    /** Marks reach left of x 0, so the rows begin there. */
    private static final int FIRST_X = -1000, XS = 103000;

    private static final class Item {
        int x, low, high, voice, stem;
        boolean rest;
    }

    private static final class Mark {
        int number, kind, width, height;
        Item item;
        boolean gone, inRow;
        int left, side, inner, outer, turn;
    }

    private static final class Slur {
        Item from, to;
        int side, thickness, inner, outer;
    }

    private final List<Item> items = new ArrayList<>();
    private final List<Mark> marks = new ArrayList<>();
    private final List<Slur> slurs = new ArrayList<>();
    private final int[][] kinds = new int[10][];
    private final int[][] sky = new int[2][XS];
    private final List<Mark> turns = new ArrayList<>();
    private boolean placed;

    PlainModel() {
        for (int k = 0; k < 10; k++) {
            kinds[k] = new int[] {k, 1, 0, 2, 0, 0};
        }
    }

    int note(int x, int low, int high, int voice, int stem) {
        if (stem < -1 || stem > 1) {
            return BAD;
        }
        return newItem(x, low, high, voice, stem, false);
    }

    int rest(int x, int y, int voice) {
        return newItem(x, y, y, voice, 0, true);
    }

    private int newItem(int x, int low, int high, int voice, int stem, boolean rest) {
        boolean bad = x < 0 || x > 100000 || low < -60 || high > 60 || low > high
                || voice < 0 || voice > 1 || items.stream().anyMatch(i -> i.x == x);
        if (bad) {
            return BAD;
        }
        if (items.size() == 40) {
            return FULL;
        }
        Item i = new Item();
        i.x = x;
        i.low = low;
        i.high = high;
        i.voice = voice;
        i.stem = stem;
        i.rest = rest;
        items.add(i);
        placed = false;
        return items.size() - 1;
    }

    int lift(int item, int by) {
        Item i = itemOf(item);
        if (i == null || (long) i.low + by < -60 || (long) i.high + by > 60) {
            return BAD;
        }
        i.low += by;
        i.high += by;
        placed = false;
        return 1;
    }

    int set(int kind, int what, int v) {
        if (kind < 0 || kind > 9 || what < 0 || what > 5 || v < 0) {
            return BAD;
        }
        int most = what == 0 ? 9 : what == 1 ? 3 : what == 3 ? 20 : 1;
        if (v > most) {
            return BAD;
        }
        int was = kinds[kind][what];
        kinds[kind][what] = v;
        placed = false;
        return was;
    }

    int mark(int item, int kind, int width, int height) {
        Item i = itemOf(item);
        if (i == null || kind < 0 || kind > 9 || width < 1 || width > 400 || height < 1 || height > 40) {
            return BAD;
        }
        if (marks.size() == 80) {
            return FULL;
        }
        Mark m = new Mark();
        m.number = marks.size();
        m.item = i;
        m.kind = kind;
        m.width = width;
        m.height = height;
        marks.add(m);
        placed = false;
        return m.number;
    }

    int drop(int mark) {
        Mark m = markOf(mark);
        if (m == null) {
            return BAD;
        }
        m.gone = true;
        placed = false;
        return 1;
    }

    int slur(int from, int to, int side, int thickness) {
        Item a = itemOf(from);
        Item b = itemOf(to);
        if (a == null || b == null || b.x <= a.x || Math.abs(side) != 1 || thickness < 1 || thickness > 20) {
            return BAD;
        }
        if (slurs.size() == 10) {
            return FULL;
        }
        Slur s = new Slur();
        s.from = a;
        s.to = b;
        s.side = side;
        s.thickness = thickness;
        slurs.add(s);
        placed = false;
        return slurs.size() - 1;
    }

    int place() {
        Arrays.fill(sky[0], 18);
        Arrays.fill(sky[1], 18);
        turns.clear();
        for (Item i : items) {
            drawItem(i);
        }
        for (Slur s : slurs) {
            int end = s.to.x + 1;
            s.inner = top(s.side, s.from.x, end) + 3;
            s.outer = s.inner + s.thickness;
            paint(s.side, s.from.x, end, s.outer + 3);
        }
        List<Mark> all = new ArrayList<>();
        for (Mark m : marks) {
            if (!m.gone) {
                m.inRow = false;
                m.side = sideOf(m);
                m.left = kinds[m.kind][2] == 1 ? m.item.x : m.item.x - m.width / 2;
                all.add(m);
            }
        }
        all.sort(Comparator.<Mark>comparingInt(m -> kinds[m.kind][5])
                .thenComparingInt(m -> kinds[m.kind][0])
                .thenComparingInt(m -> m.item.x)
                .thenComparingInt(m -> m.number));
        int late = 0;
        while (!all.isEmpty()) {
            Mark m = all.get(0);
            if (kinds[m.kind][4] == 0) {
                all.remove(0);
                put(m, alone(m));
            } else {
                late += putRow(all, m.kind, 1) + putRow(all, m.kind, -1);
            }
        }
        placed = true;
        return late;
    }

    /** Takes the row's marks out of the list. */
    private int putRow(List<Mark> all, int kind, int side) {
        List<Mark> row = new ArrayList<>();
        List<Mark> late = new ArrayList<>();
        int inner = 0;
        for (Mark m : new ArrayList<>(all)) {
            if (m.kind == kind && m.side == side) {
                all.remove(m);
                boolean free = true;
                for (Mark r : row) {
                    for (int x = m.left; x < m.left + m.width; x++) {
                        free &= x < r.left || x >= r.left + r.width;
                    }
                }
                (free ? row : late).add(m);
                m.inRow = free;
                inner = free ? Math.max(inner, alone(m)) : inner;
            }
        }
        for (Mark m : row) {
            put(m, inner);
        }
        for (Mark m : late) {
            put(m, alone(m));
        }
        return late.size();
    }

    private int alone(Mark m) {
        return top(m.side, m.left - 1, m.left + m.width + 1) + kinds[m.kind][3];
    }

    private void put(Mark m, int inner) {
        m.inner = inner;
        m.outer = inner + m.height;
        m.turn = turns.size();
        turns.add(m);
        paint(m.side, m.left, m.left + m.width, m.outer);
    }

    private void drawItem(Item i) {
        int reach = i.rest ? 5 : 6;
        int beyond = i.rest ? 8 : 4;
        cover(i.x - reach, i.x + reach, i.low - beyond, i.high + beyond);
        if (i.stem == 1) {
            cover(i.x - 1, i.x + 1, i.low, i.high + 28);
        } else if (i.stem == -1) {
            cover(i.x - 1, i.x + 1, i.low - 28, i.high);
        }
    }

    /** Covers from one y to another on both sides. */
    private void cover(int left, int right, int bottom, int top) {
        for (int x = left; x <= right; x++) {
            sky[0][x - FIRST_X] = Math.max(sky[0][x - FIRST_X], top);
            sky[1][x - FIRST_X] = Math.max(sky[1][x - FIRST_X], -bottom);
        }
    }

    private int top(int side, int from, int end) {
        int top = Integer.MIN_VALUE;
        for (int x = from; x < end; x++) {
            top = Math.max(top, skyOf(side)[x - FIRST_X]);
        }
        return top;
    }

    private void paint(int side, int from, int end, int height) {
        Arrays.fill(skyOf(side), from - FIRST_X, end - FIRST_X, height);
    }

    private int[] skyOf(int side) {
        return side == 1 ? sky[0] : sky[1];
    }

    private int sideOf(Mark m) {
        int side = kinds[m.kind][1];
        if (side >= 2) {
            return side == 2 ? 1 : -1;
        }
        boolean zero = items.stream().anyMatch(i -> i.voice == 0);
        boolean one = items.stream().anyMatch(i -> i.voice == 1);
        int byVoice = m.item.voice == 0 ? 1 : -1;
        if (zero && one) {
            return byVoice;
        }
        int stem = m.item.stem != 0 ? m.item.stem : byVoice;
        return side == 0 ? stem : -stem;
    }

    int at(int mark, int what) {
        Mark m = markOf(mark);
        if (m == null || what < 0 || what > 6) {
            return BAD;
        }
        needPlaces();
        int row = m.inRow ? 1 : 0;
        return new int[] {m.left, m.left + m.width, m.side, m.inner, m.outer, row, m.turn}[what];
    }

    int slurAt(int slur, int what) {
        if (slur < 0 || slur >= slurs.size() || what < 0 || what > 1) {
            return BAD;
        }
        needPlaces();
        return what == 0 ? slurs.get(slur).inner : slurs.get(slur).outer;
    }

    int skyline(int x, int side) {
        if (x < 0 || x > 101000 || side != 1 && side != -1) {
            return BAD;
        }
        needPlaces();
        return skyOf(side)[x - FIRST_X];
    }

    int row(int kind, int side) {
        if (kind < 0 || kind > 9 || side != 1 && side != -1) {
            return BAD;
        }
        needPlaces();
        for (Mark m : turns) {
            if (m.kind == kind && m.side == side && m.inRow) {
                return m.inner;
            }
        }
        return NONE;
    }

    int order(int item, int side, int k) {
        Item i = itemOf(item);
        if (i == null || side != 1 && side != -1) {
            return BAD;
        }
        needPlaces();
        List<Mark> there = new ArrayList<>(turns);
        there.removeIf(m -> m.item != i || m.side != side);
        there.sort(Comparator.<Mark>comparingInt(m -> m.inner).thenComparingInt(m -> m.number));
        return k < 0 || k >= there.size() ? NONE : there.get(k).number;
    }

    int meets(int a, int b) {
        Mark p = markOf(a);
        Mark q = markOf(b);
        if (p == null || q == null || p == q) {
            return BAD;
        }
        needPlaces();
        boolean apart = p.left + p.width <= q.left || q.left + q.width <= p.left
                || p.outer <= q.inner || q.outer <= p.inner || p.side != q.side;
        return apart ? 0 : 1;
    }

    int wide(int mark) {
        Mark m = markOf(mark);
        if (m == null) {
            return BAD;
        }
        List<Item> behind = behind(m);
        if (kinds[m.kind][2] == 0 || behind.isEmpty()) {
            return 0;
        }
        return Math.max(0, m.item.x + m.width + 4 - behind.get(0).x);
    }

    int push(int mark) {
        int by = wide(mark);
        if (by <= 0) {
            return by;
        }
        List<Item> behind = behind(markOf(mark));
        if (behind.get(behind.size() - 1).x + by > 100000) {
            return FULL;
        }
        for (Item i : behind) {
            i.x += by;
        }
        placed = false;
        return by;
    }

    private List<Item> behind(Mark m) {
        List<Item> behind = new ArrayList<>(items);
        behind.removeIf(i -> i.x <= m.item.x);
        behind.sort(Comparator.comparingInt(i -> i.x));
        return behind;
    }

    int item(int item, int what) {
        Item i = itemOf(item);
        if (i == null || what < 0 || what > 6) {
            return BAD;
        }
        int there = (int) marks.stream().filter(m -> !m.gone && m.item == i).count();
        return new int[] {i.x, i.low, i.high, i.voice, i.stem, i.rest ? 1 : 0, there}[what];
    }

    int count(int what) {
        switch (what) {
            case 0:
                return items.size();
            case 1:
                return (int) marks.stream().filter(m -> !m.gone).count();
            case 2:
                return slurs.size();
            case 3:
                return placed ? 1 : 0;
            case 4:
                return furthest(1);
            case 5:
                return furthest(-1);
            default:
                return BAD;
        }
    }

    private int furthest(int side) {
        needPlaces();
        int marksOut = turns.stream().filter(m -> m.side == side).mapToInt(m -> m.outer).max().orElse(0);
        int slursOut = slurs.stream().filter(s -> s.side == side).mapToInt(s -> s.outer).max().orElse(0);
        return Math.max(marksOut, slursOut);
    }

    private void needPlaces() {
        if (!placed) {
            throw new IllegalStateException();
        }
    }

    private Item itemOf(int item) {
        return item >= 0 && item < items.size() ? items.get(item) : null;
    }

    private Mark markOf(int mark) {
        return mark >= 0 && mark < marks.size() && !marks.get(mark).gone ? marks.get(mark) : null;
    }
}
