import java.lang.management.ManagementFactory;
import java.util.Random;

/** What no call may do: throw, make objects, or take long; the dearest calls, and any arguments at all. */
public final class HardTest {
    private static final int[] NUMBERS = {Integer.MIN_VALUE, Integer.MIN_VALUE + 1, -65536, -129, -15, -2, -1, 0, 1, 2, 3, 4, 5, 8, 9, 12,
        16, 17, 47, 48, 49, 100, 65536, Integer.MAX_VALUE - 1, Integer.MAX_VALUE};
    private static final long TEXT = Check.word("rwb gxrw");

    public static void main(String[] args) {
        anyArguments();
        dearest();
        whatStuckCosts();
        noObjects();
        Check.end();
    }

    private static void anyArguments() {
        Check.part("any arguments");
        for (int seed = 0; seed < 300; seed++) {
            Random dice = new Random(seed);
            PaleFence x = new PaleFence();
            boolean answered = true;
            try {
                for (int k = 0; k < 512; k++) {
                    call(x, dice);
                }
            } catch (RuntimeException e) {
                e.printStackTrace(System.out);
                answered = false;
            }
            Check.holds("seed " + seed, answered);
        }
    }

    private static int n(Random dice) {
        return dice.nextInt(3) == 0 ? NUMBERS[dice.nextInt(NUMBERS.length)] : dice.nextInt(7) - 1;
    }

    private static int call(PaleFence x, Random d) {
        switch (d.nextInt(36)) {
            case 0: return x.colours(n(d));
            case 1: return x.price(n(d), n(d));
            case 2: return x.rule(n(d), n(d));
            case 3: return x.paint(n(d));
            case 4: return x.scrape(n(d));
            case 5: return x.pale(n(d));
            case 6: return x.type(TEXT >> d.nextInt(64), n(d));
            case 7: return x.fence();
            case 8: return x.count(n(d));
            case 9: return x.fault(n(d));
            case 10: return x.may();
            case 11: return x.kind(n(d));
            case 12: return x.far(n(d));
            case 13: return x.go(n(d), n(d));
            case 14: return x.less(n(d));
            case 15: return x.many(n(d));
            case 16: return x.rings(n(d));
            case 17: return x.ring(n(d), n(d));
            case 18: return x.cheap(n(d), n(d));
            case 19: return x.wins(n(d));
            case 20: return x.tear(n(d));
            case 21: return x.mends(n(d));
            case 22: return x.replace(n(d), n(d));
            case 23: return x.lots(n(d));
            case 24: return x.seed(n(d));
            case 25: return x.image();
            case 26: return x.restore();
            case 27: return x.storm(n(d), n(d), n(d), n(d), n(d));
            case 28: return x.build(n(d), n(d), n(d), n(d));
            case 29: return x.film(n(d), n(d), n(d));
            case 30: case 31: return x.sheet(n(d), n(d), n(d));
            case 32: return x.drop(n(d));
            case 33: return x.item(n(d), n(d), n(d), n(d));
            case 34: return x.copy(n(d), n(d), n(d), n(d), n(d));
            default: return x.type(d.nextLong(), n(d));
        }
    }

    private static void dearest() {
        Check.part("the dearest calls");
        long begun = System.nanoTime();
        PaleFence x = Check.fenced(4, 3, 3, "");
        x.lots(44);
        x.sheet(0, 0, 4);
        for (int i = 0; i < 4; i++) {
            x.item(0, 0, i, i);
            x.price(i, 99 - i);
        }
        for (int k = 0; k < 80; k++) {
            Check.due("many(9)", x.many(9), 247092);
            Check.holds("rings(8)", x.rings(8) > 0);
            Check.holds("cheap(8, -1)", x.cheap(8, -1) > 0);
            Check.due("wins(8)", x.wins(8), 2);
            Check.due("less(12)", x.less(12), 0);
            Check.holds("storm", x.storm(0, 0, 0, 4, -1) > 0);
        }
        Check.holds("480 calls take less than 20 seconds", System.nanoTime() - begun < 20_000_000_000L);
    }

    /** All rows are made with the object: what a call needs more than that is nothing. */
    private static void noObjects() {
        Check.part("objects made by calls");
        com.sun.management.ThreadMXBean threads = (com.sun.management.ThreadMXBean) ManagementFactory.getThreadMXBean();
        long self = Thread.currentThread().getId();
        Random dice = new Random(1);
        PaleFence x = new PaleFence();
        long ahead = threads.getThreadAllocatedBytes(self);
        for (int k = 0; k < 512; k++) {
            call(x, dice);
        }
        long most = 512 * 64;
        Check.holds("512 calls make next to nothing", threads.getThreadAllocatedBytes(self) - ahead < most);
    }

    private static void whatStuckCosts() {
        Check.part("rows that are soon stuck");
        long begun = System.nanoTime();
        for (int seed = 0; seed < 400; seed++) {
            PaleFence x = Check.fenced(2 + seed % 3, seed / 3 % 4, 2, "");
            x.rule(1, 1 + seed / 12 % 9);
            x.seed(seed);
            x.lots(48);
            int far = x.far(16);
            int less = x.less(12);
            Check.holds("far", far >= 0 && far <= 16);
            Check.holds("less", less == -4 || less >= 0 && less <= 12);
        }
        Check.holds("800 calls take less than 20 seconds", System.nanoTime() - begun < 20_000_000_000L);
    }
}
