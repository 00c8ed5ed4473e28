import java.util.Random;

/** Runs of up to 512 calls drawn by fixed seeds; every answer is compared with the model's. */
public final class ModelRunsTest {
    private static final int RUNS = 600;
    private static final int[] FAR_OFF = {Integer.MIN_VALUE, -1000, -2, -1, 0, 1, 2, 48, 49, 50, 100, 1 << 20, Integer.MAX_VALUE};

    private final Random dice;
    private final PaleFence x = new PaleFence();
    private final Model m = new Model();
    private int calls = 0;
    private int law = 0;
    private int colours = 3;

    private ModelRunsTest(long seed) {
        dice = new Random(seed);
    }

    public static void main(String[] args) {
        for (int run = 0; run < RUNS; run++) {
            Check.part("run " + run);
            new ModelRunsTest(run).run();
        }
        Check.end();
    }

    private void run() {
        settle();
        while (calls < 480) {
            step();
        }
        for (int i = 0; i < 5; i++) {
            ask(what("count"), x.count(i), m.count(i));
        }
        for (int i = 0; i < x.count(0) && calls < 512; i++) {
            ask(what("pale", i), x.pale(i), m.pale(i));
        }
    }

    private void ask(String call, int got, int want) {
        calls++;
        Check.due("call " + calls + ": " + call, got, want);
    }

    private static String what(String name, long... numbers) {
        StringBuilder call = new StringBuilder(name).append('(');
        for (int k = 0; k < numbers.length; k++) {
            call.append(k == 0 ? "" : ", ").append(numbers[k]);
        }
        return call.append(')').toString();
    }

    /** A number of a range, or seldom one that is beside it or far off. */
    private int some(int low, int high) {
        int lot = dice.nextInt(40);
        if (lot == 0) {
            return FAR_OFF[dice.nextInt(FAR_OFF.length)];
        }
        if (lot == 1) {
            return low - 1;
        }
        if (lot == 2) {
            return high + 1;
        }
        return high <= low ? low : low + dice.nextInt(Math.max(1, high - low + 1));
    }

    private void settle() {
        setColours(2 + dice.nextInt(3));
        setRule(0, dice.nextInt(4));
        setRule(1, dice.nextInt(3) == 0 ? 1 + dice.nextInt(9) : 1 + dice.nextInt(4));
        int seed = dice.nextInt() & Integer.MAX_VALUE;
        ask(what("seed", seed), x.seed(seed), m.seed(seed));
        paintLots(1 + dice.nextInt(48));
    }

    private void setColours(int v) {
        int was = m.colours(v);
        ask(what("colours", v), x.colours(v), was);
        if (was > 0) {
            colours = v;
        }
    }

    private void setRule(int kind, int v) {
        int was = m.rule(kind, v);
        ask(what("rule", kind, v), x.rule(kind, v), was);
        if (was >= 0 && kind == 0) {
            law = v;
        }
    }

    private void paintLots(int n) {
        ask(what("lots", n), x.lots(n), m.lots(n));
    }

    private void step() {
        switch (dice.nextInt(12)) {
            case 0: rules(); break;
            case 1: case 2: case 3: painting(); break;
            case 4: text(); break;
            case 5: case 6: howFar(); break;
            case 7: howMany(); break;
            case 8: case 9: tornAndLots(); break;
            default: sheets(); break;
        }
    }

    private void rules() {
        int a = some(0, 3);
        int v = some(0, 99);
        switch (dice.nextInt(6)) {
            case 0: setColours(some(2, 4)); break;
            case 1: setRule(0, some(0, 3)); break;
            case 2: setRule(1, some(1, 9)); break;
            case 3: setRule(some(0, 1), some(1, 3)); break;
            default:
                if (dice.nextBoolean()) {
                    v = Math.min(v, 3);
                }
                ask(what("price", a, v), x.price(a, v), m.price(a, v));
                break;
        }
    }

    private void painting() {
        int size = m.count(0);
        int what = some(0, 5);
        int i = some(0, size - 1);
        int colour = some(0, colours - 1);
        int n = dice.nextInt(3) == 0 ? some(1, 48) : some(1, 3);
        switch (dice.nextInt(10)) {
            case 0: ask(what("count", what), x.count(what), m.count(what)); break;
            case 1: ask(what("pale", i), x.pale(i), m.pale(i)); break;
            case 2: ask(what("scrape", n), x.scrape(n), m.scrape(n)); break;
            default: ask(what("paint", colour), x.paint(colour), m.paint(colour)); break;
        }
    }

    private void text() {
        int n = some(1, 8);
        long w = 0;
        for (int k = 0; k < 8; k++) {
            int lot = dice.nextInt(200);
            int b = lot == 0 ? dice.nextInt(256) : lot == 1 ? "xRWBG~!".charAt(dice.nextInt(7))
                : lot < 40 ? ' ' : "rwbg".charAt(dice.nextInt(dice.nextInt(20) == 0 ? 4 : colours));
            w = w << 8 | b;
        }
        if (dice.nextInt(4) == 0) {
            ask(what("fence"), x.fence(), m.fence());
        } else {
            ask(what("type", w, n), x.type(w, n), m.type(w, n));
        }
    }

    private void howFar() {
        int n = some(0, 16);
        int i = some(0, 5);
        int place = some(0, m.count(0) - 1);
        int twelve = some(1, 12);
        // The model plays every game to its end, so with many colours it is asked for short ones.
        int turns = Math.min(some(0, 8), colours == 2 || law == 0 || law == 2 ? 9 : colours == 3 ? 6 : 4);
        switch (dice.nextInt(8)) {
            case 0: ask(what("fault", i), x.fault(i), m.fault(i)); break;
            case 1: ask(what("fault", i & 1), x.fault(i & 1), m.fault(i & 1)); break;
            case 2: ask(what("may"), x.may(), m.may()); break;
            case 3: ask(what("kind", place), x.kind(place), m.kind(place)); break;
            case 4: ask(what("far", n), x.far(n), m.far(n)); break;
            case 5: ask(what("go", n, i), x.go(n, i), m.go(n, i)); break;
            case 6: ask(what("less", twelve), x.less(twelve), m.less(twelve)); break;
            default: ask(what("wins", turns), x.wins(turns), m.wins(turns)); break;
        }
    }

    private void howMany() {
        int n = some(1, 8);
        int i = some(0, Math.min(n, 8) - 1);
        switch (dice.nextInt(6)) {
            case 0: ask(what("many", n + 1), x.many(n + 1), m.many(n + 1)); break;
            case 1: ask(what("rings", n), x.rings(n), m.rings(n)); break;
            case 2: ask(what("ring", n, i), x.ring(n, i), m.ring(n, i)); break;
            case 3: ask(what("cheap", n, -1), x.cheap(n, -1), m.cheap(n, -1)); break;
            default: ask(what("cheap", n, i), x.cheap(n, i), m.cheap(n, i)); break;
        }
    }

    private void tornAndLots() {
        int i = some(0, m.count(0) - 1);
        int colour = some(0, colours - 1);
        int n = Math.max(some(1, 48 - m.count(0)), 0);
        int v = some(0, Integer.MAX_VALUE - 1);
        switch (dice.nextInt(12)) {
            case 0: ask(what("tear", i), x.tear(i), m.tear(i)); break;
            case 1: ask(what("replace", i, colour), x.replace(i, colour), m.replace(i, colour)); break;
            case 2: case 3: case 4: paintLots(n); break;
            case 5: ask(what("seed", v), x.seed(v), m.seed(v)); break;
            case 6: ask(what("image"), x.image(), m.image()); break;
            case 7:
                ask(what("restore"), x.restore(), m.restore());
                // What the image brought back is told by a call that changes nothing more.
                ask(what("rule", 0, law), x.rule(0, law), m.rule(0, law));
                ask(what("colours", 4), x.colours(4), m.colours(4));
                colours = 4;
                break;
            default: ask(what("mends", i), x.mends(i), m.mends(i)); break;
        }
    }

    private void sheets() {
        int s = some(0, 3);
        int t = some(0, 3);
        int lane = dice.nextInt(4) == 0 ? some(0, 2) : 1;
        int n = some(0, 48);
        int i = some(0, dice.nextBoolean() ? 47 : 6);
        int j = some(0, 47);
        int size = m.count(0);
        int v = dice.nextInt(3) == 0 ? some(0, colours - 1) : dice.nextInt(5) == 0 ? dice.nextInt() : some(0, size - 1);
        switch (dice.nextInt(16)) {
            case 0: case 1: ask(what("sheet", s, lane, n), x.sheet(s, lane, n), m.sheet(s, lane, n)); break;
            case 2: if (dice.nextInt(3) == 0) ask(what("drop", s), x.drop(s), m.drop(s)); break;
            case 3: case 4: case 5: ask(what("item", s, lane, i, v), x.item(s, lane, i, v), m.item(s, lane, i, v)); break;
            case 6: ask(what("film", s, lane, i), x.film(s, lane, i), m.film(s, lane, i)); break;
            case 7: ask(what("build", s, lane, i, n), x.build(s, lane, i, n), m.build(s, lane, i, n)); break;
            case 8: ask(what("build", s, lane, j, n % 10), x.build(s, lane, j, n % 10), m.build(s, lane, j, n % 10)); break;
            case 9: ask(what("copy", s, i, t, j, n), x.copy(s, i, t, j, n), m.copy(s, i, t, j, n)); break;
            case 10: ask(what("copy", s, i, t, j, n % 8), x.copy(s, i, t, j, n % 8), m.copy(s, i, t, j, n % 8)); break;
            default: storm(s, lane, i); break;
        }
    }

    /** Most storms are told in rising numbers; some as the sheet happens to hold them. */
    private void storm(int s, int lane, int from) {
        int n = some(1, 4);
        int i = some(-1, Math.min(n, 4) - 1);
        if (dice.nextInt(8) != 0) {
            int pale = -1;
            for (int k = 0; k < n && k < 4; k++) {
                pale += 1 + dice.nextInt(Math.max(1, m.count(0) / 4));
                int at = from + k;
                ask(what("item", s, lane, at, pale), x.item(s, lane, at, pale), m.item(s, lane, at, pale));
            }
        }
        ask(what("storm", s, lane, from, n, i), x.storm(s, lane, from, n, i), m.storm(s, lane, from, n, i));
    }
}
