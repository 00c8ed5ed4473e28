import java.util.function.IntUnaryOperator;

/** What all tests of the project use: counts calls whose answer is not the one that is due. */
final class Check {
    // Lawful rows of 48 pales behind which none may come, or one that is the last.
    static final String STUCK_AT_48 = "wbrwrbrwbrbwbrwrbrwbwrwbrbwbrwbwrwbrwrbwrwbrbwrw";
    static final String STUCK_AT_49 = "wbrbwbrwrbwrwbwrbwbrbwrwbrbwbrwrbwbrbwrbrwrbwbrb";

    private static int right = 0;
    private static int wrong = 0;
    private static String part = "";

    private Check() {
    }

    static void part(String name) {
        part = name;
    }

    static void due(String call, long got, long want) {
        if (got == want) {
            right++;
        } else {
            wrong++;
            System.out.println(part + ": " + call + " answered " + got + ", due is " + want);
        }
    }

    static void holds(String what, boolean so) {
        due(what, so ? 1 : 0, 1);
    }

    /** Asks with each of these numbers: the same answer is due. */
    static void each(String call, IntUnaryOperator asked, int want, int... numbers) {
        for (int n : numbers) {
            due(call + "(" + n + ")", asked.applyAsInt(n), want);
        }
    }

    /** How many answers have been looked at. */
    static int asked() {
        return right + wrong;
    }

    /** Ends the test: exit code 1 if an answer was wrong, or if nothing was asked. */
    static void end() {
        System.out.println(right + " answers as due, " + wrong + " not");
        if (wrong != 0 || right == 0) {
            System.exit(1);
        }
    }

    /** Types a text, eight bytes at a time: what the last call answered. */
    static int types(PaleFence x, String text) {
        int answer = 0;
        for (int i = 0; i < text.length(); i += 8) {
            String some = text.substring(i, Math.min(text.length(), i + 8));
            answer = x.type(word(some), some.length());
        }
        return answer;
    }

    static long word(String some) {
        long w = 0;
        for (char c : some.toCharArray()) {
            w = w << 8 | c;
        }
        return w;
    }

    /** Types a text and reads it as the fence. */
    static int reads(PaleFence x, String text) {
        types(x, text);
        return x.fence();
    }

    /** A new object with that fence. */
    static PaleFence fenced(String text) {
        PaleFence x = new PaleFence();
        reads(x, text);
        return x;
    }

    static PaleFence fenced(int colours, int law, int least, String text) {
        PaleFence x = new PaleFence();
        x.colours(colours);
        x.rule(0, law);
        x.rule(1, least);
        reads(x, text);
        return x;
    }

    /** The fence as letters. */
    static String shown(PaleFence x) {
        StringBuilder text = new StringBuilder();
        for (int i = 0; i < x.count(0); i++) {
            int colour = x.pale(i);
            text.append(colour >= 0 && colour < 4 ? "rwbg".charAt(colour) : '?');
        }
        return text.toString();
    }

    static void stands(PaleFence x, String text) {
        String is = shown(x);
        if (!is.equals(text)) {
            System.out.println(part + ": the fence is " + is + ", due is " + text);
        }
        due("the fence is as due", is.equals(text) ? 1 : 0, 1);
    }

    /** A new row of a lane, with these items. */
    static void fill(PaleFence x, int sheet, int lane, int... items) {
        due("sheet", x.sheet(sheet, lane, items.length), items.length);
        for (int i = 0; i < items.length; i++) {
            due("item", x.item(sheet, lane, i, items[i]), 1);
        }
    }

    /** Whether a sheet has just these items, colours, told by a fence of four colours. */
    static void sheetHas(PaleFence x, int sheet, int lane, String row) {
        x.colours(4);
        due("build", x.build(sheet, lane, 0, row.length()), row.length());
        stands(x, row);
        due("no item more", x.build(sheet, lane, 0, row.length() + 1), row.length() == 48 ? -1 : -13);
    }

    /** The colour of a letter of a row. */
    static int colour(String row, int i) {
        return "rwbg".indexOf(row.charAt(i));
    }

    /** A row of n pales in which no stretch comes twice running. */
    static String squareFree(int n) {
        String row = "r";
        while (row.length() <= n) {
            StringBuilder next = new StringBuilder();
            for (char c : row.toCharArray()) {
                next.append(c == 'r' ? "rwb" : c == 'w' ? "rb" : "w");
            }
            row = next.toString();
        }
        return row.substring(0, n);
    }
}
