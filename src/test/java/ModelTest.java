import java.util.Random;

/**
 * Promises 1 to 19 at once: runs of up to 512 calls, each answer against the one of PlainModel. The
 * seeds are fixed, so every run is the same each time.
 */
public final class ModelTest {
    private static final int RUNS = 600, CALLS = 512;
    private static final Check check = new Check();

    private final Random random;
    private final StackMarks real = new StackMarks();
    private final PlainModel model = new PlainModel();
    private final String name;
    /** How far apart items come, how many kinds there are, how often a number is a wild one. */
    private final int reach, kinds, oneWildIn, base;
    /** What share of calls, in hundredths, builds: a run that builds much reaches FULL. */
    private final int building;

    private ModelTest(int seed) {
        random = new Random(seed);
        name = "run " + seed + ", call ";
        reach = new int[] {30, 120, 400, 2000}[random.nextInt(4)];
        base = random.nextInt(4) == 0 ? 100000 - reach : 0;
        kinds = 1 + random.nextInt(10);
        oneWildIn = random.nextInt(3) == 0 ? 20 : 200;
        building = 20 + random.nextInt(60);
    }

    public static void main(String[] args) {
        for (int seed = 1; seed <= RUNS; seed++) {
            new ModelTest(seed).run();
        }
        check.end();
    }

    private void run() {
        int asks = 0;
        for (int call = 0; call < CALLS; call++) {
            if (asks > 0) {
                ask(name + call);
                asks--;
            } else if (random.nextInt(100) < building) {
                build(name + call);
            } else {
                // Not always placed first, so that some of the questions are thrown back.
                asks = random.nextInt(12);
                if (random.nextInt(10) != 0) {
                    same(name + call + " place", real::place, model::place);
                }
            }
        }
    }

    private void same(String call, Check.Call got, Check.Call want) {
        check.due(call, Check.outcome(got), Check.outcome(want));
    }

    /** Mostly a number from least to most, sometimes one just outside or far away. */
    private int number(int least, int most) {
        if (random.nextInt(oneWildIn) != 0) {
            return least + random.nextInt(most - least + 1);
        }
        int[] wild = {least - 1, most + 1, least, most, Integer.MIN_VALUE, Integer.MAX_VALUE, 0, -1};
        return wild[random.nextInt(wild.length)];
    }

    private int anItem() {
        return number(0, Math.max(0, model.count(0) - 1));
    }

    private int aMark() {
        return number(0, 80 * building / 100);
    }

    private int aSide() {
        return random.nextInt(oneWildIn) == 0 ? number(-2, 2) : random.nextBoolean() ? 1 : -1;
    }

    private int aWidth() {
        return random.nextInt(8) == 0 ? number(1, 400) : number(1, 30);
    }

    private void build(String call) {
        int which = random.nextInt(20);
        if (which < 5) {
            buildItem(call, which == 0);
        } else if (which < 12) {
            int item = anItem(), kind = number(0, kinds - 1), width = aWidth(), height = number(1, 40);
            same(call + " mark", () -> real.mark(item, kind, width, height),
                    () -> model.mark(item, kind, width, height));
        } else if (which < 13) {
            int from = anItem(), to = anItem(), side = aSide(), thickness = number(1, 20);
            same(call + " slur", () -> real.slur(from, to, side, thickness),
                    () -> model.slur(from, to, side, thickness));
        } else if (which < 17) {
            int kind = number(0, kinds - 1), what = number(0, 5);
            int v = random.nextInt(3) == 0 ? number(0, 9) : number(0, what == 3 ? 20 : 1);
            same(call + " set", () -> real.set(kind, what, v), () -> model.set(kind, what, v));
        } else if (which < 18) {
            int mark = aMark();
            same(call + " drop", () -> real.drop(mark), () -> model.drop(mark));
        } else if (which < 19) {
            int item = anItem(), by = random.nextInt(4) == 0 ? number(-121, 121) : number(-20, 20);
            same(call + " lift", () -> real.lift(item, by), () -> model.lift(item, by));
        } else {
            int mark = aMark();
            same(call + " push", () -> real.push(mark), () -> model.push(mark));
        }
    }

    private void buildItem(String call, boolean rest) {
        int x = base + number(0, reach), voice = random.nextInt(9) == 0 ? number(0, 1) : 0;
        int low = number(-60, 60), high = Math.max(low, number(-60, 60)), stem = number(-1, 1);
        if (rest) {
            same(call + " rest", () -> real.rest(x, low, voice), () -> model.rest(x, low, voice));
        } else {
            same(call + " note", () -> real.note(x, low, high, voice, stem),
                    () -> model.note(x, low, high, voice, stem));
        }
    }

    private void ask(String call) {
        int mark = aMark(), other = aMark(), item = anItem(), side = aSide(), what = number(0, 6);
        int kind = number(0, kinds - 1);
        switch (random.nextInt(11)) {
            case 0, 1, 2 -> same(call + " at", () -> real.at(mark, what), () -> model.at(mark, what));
            case 3 -> askSlur(call);
            case 4 -> askSkyline(call, side);
            case 5 -> same(call + " row", () -> real.row(kind, side), () -> model.row(kind, side));
            case 6 -> askOrder(call, item, side);
            case 7 -> same(call + " meets", () -> real.meets(mark, other), () -> model.meets(mark, other));
            case 8 -> same(call + " item", () -> real.item(item, what), () -> model.item(item, what));
            case 9 -> same(call + " count", () -> real.count(what), () -> model.count(what));
            default -> same(call + " wide", () -> real.wide(mark), () -> model.wide(mark));
        }
    }

    private void askSlur(String call) {
        int slur = number(0, 3), what = number(0, 1);
        same(call + " slurAt", () -> real.slurAt(slur, what), () -> model.slurAt(slur, what));
    }

    private void askSkyline(String call, int side) {
        int x = base + number(0, reach + 100);
        same(call + " skyline", () -> real.skyline(x, side), () -> model.skyline(x, side));
    }

    private void askOrder(String call, int item, int side) {
        int k = number(-1, 4);
        same(call + " order", () -> real.order(item, side, k), () -> model.order(item, side, k));
    }
}
