import java.util.function.Supplier;
import java.util.function.ToIntFunction;

/** Objects made by the same calls: whether a call changes the one that is asked. */
final class Twin {
    private Twin() {
    }

    /** An answer is due, and the object is afterwards as one that was not asked. */
    static void changesNothing(Supplier<PaleFence> made, String call, int want, ToIntFunction<PaleFence> asked) {
        PaleFence x = made.get();
        Check.due(call, asked.applyAsInt(x), want);
        same(call, x, made.get());
    }

    /** Whether two objects tell the same of themselves; both are used up by it. */
    static void same(String call, PaleFence x, PaleFence y) {
        String is = everything(x);
        String due = everything(y);
        Check.holds(call + " leaves " + is + ", due is " + due, is.equals(due));
    }

    /** A fence, its laws, an image of other ones, bytes on the tape, sheets 0 .. 2; sheet 3 holds nothing. */
    static PaleFence common() {
        PaleFence x = Check.fenced(4, 3, 3, "rwbgrw");
        for (int c = 0; c < 4; c++) {
            x.price(c, 5 + c);
        }
        x.seed(99);
        x.image();
        Check.reads(x, "rwbrb");
        x.colours(3);
        x.rule(0, 0);
        x.rule(1, 4);
        for (int c = 0; c < 4; c++) {
            x.price(c, 10 * c + 10);
        }
        x.seed(1234);
        Check.fill(x, 0, 0, 0, 1, 2, 1, 2);
        Check.fill(x, 1, 1, 2, 1);
        Check.fill(x, 2, 2, 1, 3, 3);
        return x;
    }

    static PaleFence withTape() {
        PaleFence x = common();
        Check.types(x, "bwr");
        return x;
    }

    /** 48 pales, and 97 bytes on the tape. */
    static PaleFence full() {
        PaleFence x = common();
        Check.reads(x, Check.squareFree(48));
        Check.types(x, "rwb" + " ".repeat(94));
        return x;
    }

    static PaleFence notLawful() {
        PaleFence x = common();
        Check.reads(x, "rrw");
        return x;
    }

    /** Two colours, of which none may come next. */
    static PaleFence stuck() {
        PaleFence x = common();
        Check.reads(x, "rwr");
        x.colours(2);
        return x;
    }

    static PaleFence noImage() {
        return Check.fenced(4, 3, 9, "rrg");
    }

    private static String everything(PaleFence x) {
        StringBuilder all = new StringBuilder();
        state(x, all);
        all.append(" image ").append(x.restore());
        state(x, all);
        all.append(" tape ").append(x.type(' ', 1)).append(' ').append(x.fence()).append(' ').append(Check.shown(x));
        for (int s = 0; s < 4; s++) {
            sheet(x, s, all);
        }
        return all.toString();
    }

    private static void state(PaleFence x, StringBuilder all) {
        all.append(" fence ").append(Check.shown(x)).append(" prices");
        for (int c = 0; c < 4; c++) {
            all.append(' ').append(x.price(c, 0));
        }
        all.append(" colours ").append(x.colours(4)).append(" rules ").append(x.rule(0, 0)).append(' ').append(x.rule(1, 1));
        all.append(" draw ").append(x.seed(0));
    }

    // No sheet here has more than 6 items: what is asked stays below 512 calls.
    private static void sheet(PaleFence x, int s, StringBuilder all) {
        all.append(" sheet");
        int many = 6;
        while (many > 0 && x.copy(s, 0, s, 0, many) != many) {
            many--;
        }
        for (int lane = 0; lane < 3; lane++) {
            int answer = x.build(s, lane, 0, 0);
            all.append(' ').append(answer);
            for (int i = 0; i < many && answer == 0; i++) {
                all.append(x.build(s, lane, i, 1) == 1 ? Check.shown(x) : "?");
            }
        }
        all.append(" of ").append(x.drop(s));
    }
}
