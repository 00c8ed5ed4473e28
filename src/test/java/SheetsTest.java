/** Promises 29 to 35: storms and sheets 0 .. 3. */
public final class SheetsTest {
    private static final int MIN = Integer.MIN_VALUE, MAX = Integer.MAX_VALUE;

    public static void main(String[] args) {
        storm();
        stormRefused();
        build();
        buildRefused();
        film();
        sheet();
        drop();
        item();
        lanes();
        copy();
        copyRefused();
        Check.end();
    }

    private static void stormIs(PaleFence x, int lane, int n, int ways, String first) {
        Check.due("ways", x.storm(0, lane, 0, n, -1), ways);
        for (int i = 0; i < n; i++) {
            int due = ways == 0 ? -4 : "rwbg".indexOf(first.charAt(i));
            Check.due("the first way's " + i, x.storm(0, lane, 0, n, i), due);
        }
    }

    private static void storm() {
        Check.part("promise 29");
        PaleFence x = Check.fenced("rwrbrwr");
        Check.fill(x, 0, 1, 0, 3, 6);
        stormIs(x, 1, 3, 4, "rbr");
        stormIs(x, 1, 1, 2, "r");
        Check.due("from the last on", x.storm(0, 1, 2, 1, -1), 2);
        Check.stands(x, "rwrbrwr");
        x = Check.fenced("rrrr");
        Check.fill(x, 0, 0, 0, 1, 2, 3);
        stormIs(x, 0, 4, 18, "rwrb");
        stormIs(x, 0, 3, 6, "rwb");
        stormIs(x, 0, 2, 0, "");
        stormIs(x, 0, 1, 0, "");
        Check.stands(x, "rrrr");
        x.rule(0, 3);
        x.rule(1, 9);
        stormIs(x, 0, 4, 81, "rrrr");
        x.colours(4);
        stormIs(x, 0, 4, 256, "rrrr");
        x.colours(2);
        x.rule(0, 1);
        stormIs(x, 0, 4, 10, "rrwr");
        // Not lawful ahead of the lost ones, between them, behind them.
        x = Check.fenced("rrwbr");
        Check.fill(x, 0, 2, 2, 4);
        stormIs(x, 2, 2, 0, "");
        x = Check.fenced("rwwbr");
        Check.fill(x, 0, 2, 0, 3);
        stormIs(x, 2, 2, 0, "");
        x = Check.fenced("rwbbr");
        Check.fill(x, 0, 2, 0, 1);
        stormIs(x, 2, 2, 0, "");
        Check.fill(x, 0, 2, 0, 3);
        stormIs(x, 2, 2, 1, "rw");
        x = Check.fenced(Check.squareFree(48));
        Check.fill(x, 0, 2, 44, 45, 46, 47);
        Check.holds("ways at the end of 48", x.storm(0, 2, 0, 4, -1) >= 1);
        Check.fill(x, 0, 2, 47);
        Check.holds("ways at the end of 48", x.storm(0, 2, 0, 1, -1) >= 1);
        Check.stands(x, Check.squareFree(48));
    }

    private static void stormRefused() {
        Check.part("promise 29, refused");
        PaleFence x = Check.fenced("rwrbrwr");
        Check.fill(x, 1, 2, 0, 2, 4, 6, 7, -1, 3, 3, 2, MAX, 5, MIN);
        int[][] bad = {{-1, 2, 0, 1, 0}, {4, 2, 0, 1, 0}, {1, -1, 0, 1, 0}, {1, 3, 0, 1, 0}, {1, 2, 0, 0, -1}, {1, 2, 0, 5, 0},
            {1, 2, 0, -1, -1}, {1, 2, 0, 2, 2}, {1, 2, 0, 2, -2}, {1, 2, 0, MAX, 0}, {1, 2, 0, MIN, 0}, {1, 2, 0, 1, MAX},
            {1, 2, 0, 1, MIN}, {2, 3, 0, 1, 0}, {0, 2, -1, 5, 0}, {MIN, 2, 0, 1, 0}, {1, MAX, 0, 1, 0}};
        for (int[] b : bad) {
            Check.due("BAD", x.storm(b[0], b[1], b[2], b[3], b[4]), -1);
        }
        Check.due("NULL", x.storm(0, 2, 0, 1, -1), -11);
        Check.due("NULL ahead of INDEX", x.storm(0, 0, -1, 1, -1), -11);
        Check.due("CAST", x.storm(1, 0, 0, 1, -1), -12);
        Check.due("CAST ahead of INDEX", x.storm(1, 1, 12, 1, -1), -12);
        int[] off = {-1, 12, 13, MAX, MIN};
        for (int from : off) {
            Check.due("INDEX " + from, x.storm(1, 2, from, 1, -1), -13);
        }
        Check.due("INDEX", x.storm(1, 2, 9, 4, -1), -13);
        Check.due("INDEX ahead of NOT", x.storm(1, 2, 10, 3, -1), -13);
        Check.due("0 2 4 6", x.storm(1, 2, 0, 4, 0), 0);
        Check.due("NOT: 7 is no pale", x.storm(1, 2, 1, 4, -1), -2);
        Check.due("NOT: 7 alone", x.storm(1, 2, 4, 1, 0), -2);
        Check.due("NOT: -1", x.storm(1, 2, 5, 1, -1), -2);
        Check.due("NOT: 3 3", x.storm(1, 2, 6, 2, -1), -2);
        Check.due("NOT: 3 2", x.storm(1, 2, 7, 2, -1), -2);
        Check.due("NOT: MAX", x.storm(1, 2, 9, 1, -1), -2);
        Check.due("NOT: MIN", x.storm(1, 2, 11, 1, -1), -2);
        x.scrape(7);
        Check.due("NOT: no pale", x.storm(1, 2, 0, 1, -1), -2);
        Check.reads(x, "rr");
        Check.due("NOT: 2 of two", x.storm(1, 2, 0, 2, -1), -2);
        Check.due("0 of rr", x.storm(1, 2, 0, 1, 0), 1);
    }

    private static void build() {
        Check.part("promise 30");
        PaleFence x = Check.fenced("rwb");
        Check.fill(x, 0, 0, 2, 1, 0, 0, 1);
        Check.due("build of 5", x.build(0, 0, 0, 5), 5);
        Check.stands(x, "bwrrw");
        Check.due("build of 2", x.build(0, 0, 1, 2), 2);
        Check.stands(x, "wr");
        Check.due("build of none", x.build(0, 0, 5, 0), 0);
        Check.stands(x, "");
        Check.fill(x, 3, 2, new int[48]);
        Check.due("build of 48", x.build(3, 2, 0, 48), 48);
        Check.stands(x, "r".repeat(48));
        Check.due("the law does not ask", x.fault(0), 2);
        x.sheet(2, 1, 0);
        Check.due("build of a row of none", x.build(2, 1, 0, 0), 0);
        Check.stands(x, "");
        x.colours(4);
        Check.fill(x, 1, 1, 3);
        Check.due("build of g", x.build(1, 1, 0, 1), 1);
        Check.stands(x, "g");
    }

    private static void buildRefused() {
        Check.part("promise 30, refused");
        PaleFence x = Check.fenced("rwb");
        Check.fill(x, 0, 1, 0, 1, 2, 3, -1, 0, MAX);
        int[][] bad = {{-1, 1, 0, 1}, {4, 1, 0, 1}, {0, -1, 0, 1}, {0, 3, 0, 1}, {0, 1, 0, -1}, {0, 1, 0, 49}, {0, 1, 0, MAX},
            {0, 1, 0, MIN}, {1, 3, 0, 1}, {1, 1, -1, 49}};
        for (int[] b : bad) {
            Check.due("BAD", x.build(b[0], b[1], b[2], b[3]), -1);
        }
        Check.due("NULL", x.build(1, 1, 0, 0), -11);
        Check.due("NULL ahead of INDEX", x.build(1, 1, -1, 1), -11);
        Check.due("CAST", x.build(0, 0, 0, 1), -12);
        Check.due("CAST ahead of INDEX", x.build(0, 2, -1, 1), -12);
        Check.due("INDEX below 0", x.build(0, 1, -1, 1), -13);
        Check.due("INDEX of none", x.build(0, 1, -1, 0), -13);
        Check.due("INDEX of none", x.build(0, 1, 8, 0), -13);
        Check.due("INDEX", x.build(0, 1, 7, 1), -13);
        Check.due("INDEX ahead of NOT", x.build(0, 1, 3, 5), -13);
        Check.due("INDEX", x.build(0, 1, MAX, 48), -13);
        Check.due("INDEX", x.build(0, 1, MIN, 48), -13);
        Check.due("NOT: 3 of three colours", x.build(0, 1, 0, 4), -2);
        Check.due("NOT: -1", x.build(0, 1, 4, 1), -2);
        Check.stands(x, "rwb");
        x.colours(4);
        Check.due("3 of four colours", x.build(0, 1, 0, 4), 4);
        Check.due("NOT: -1", x.build(0, 1, 0, 5), -2);
        Check.stands(x, "rwbg");
    }

    private static void film() {
        Check.part("promise 31");
        PaleFence x = Check.fenced("rwb");
        for (int lane = 0; lane < 3; lane++) {
            Check.fill(x, lane, lane, 2, 2, 2, 2, 2);
            x.fence();
            Check.reads(x, "rwb");
            Check.due("film", x.film(lane, lane, 1), 3);
            Check.stands(x, "rwb");
            Check.sheetHas(x, lane, lane, "brwbb");
        }
        Check.reads(x, "rwb");
        int[][] bad = {{-1, 0, 0}, {4, 0, 0}, {0, -1, 0}, {0, 3, 0}, {3, 3, 0}, {MAX, 0, 0}, {MIN, 0, 0}};
        for (int[] b : bad) {
            Check.due("BAD", x.film(b[0], b[1], b[2]), -1);
        }
        Check.due("NULL", x.film(3, 0, -1), -11);
        Check.due("CAST", x.film(0, 1, -1), -12);
        for (int from : new int[] {-1, 3, 5, 6, MAX, MIN}) {
            Check.due("INDEX " + from, x.film(0, 0, from), -13);
        }
        Check.sheetHas(x, 0, 0, "brwbb");
        x.scrape(5);
        Check.due("film of none", x.film(0, 0, 5), 0);
        Check.due("film of none", x.film(0, 0, 0), 0);
        Check.due("film of none, from -1", x.film(0, 0, -1), -13);
        Check.due("film of none, from 6", x.film(0, 0, 6), -13);
        x.sheet(3, 2, 48);
        String row = Check.squareFree(48);
        Check.reads(x, row);
        Check.due("film of 48", x.film(3, 2, 0), 48);
        Check.due("film of 48 from 1", x.film(3, 2, 1), -13);
        x.scrape(48);
        Check.sheetHas(x, 3, 2, row);
    }

    private static void sheet() {
        Check.part("promise 32");
        PaleFence x = new PaleFence();
        int[][] bad = {{-1, 0, 1}, {4, 0, 1}, {0, -1, 1}, {0, 3, 1}, {0, 0, 49}, {0, 0, MAX}, {4, 0, -1}, {0, 3, -1}, {MIN, 0, 1}, {0, MAX, 1}};
        for (int[] b : bad) {
            Check.due("BAD", x.sheet(b[0], b[1], b[2]), -1);
        }
        Check.due("SIZE", x.sheet(0, 0, -1), -14);
        Check.due("SIZE", x.sheet(3, 2, MIN), -14);
        Check.due("nothing is held", x.drop(0), -11);
        Check.due("sheet of 0", x.sheet(0, 0, 0), 0);
        Check.due("sheet of 48", x.sheet(3, 2, 48), 48);
        Check.sheetHas(x, 3, 2, "r".repeat(48));
        Check.fill(x, 1, 1, 2, 1, 2);
        Check.due("SIZE", x.sheet(1, 1, -1), -14);
        Check.due("BAD", x.sheet(1, 1, 49), -1);
        Check.sheetHas(x, 1, 1, "bwb");
        Check.due("a new row is of 0s", x.sheet(1, 1, 3), 3);
        Check.sheetHas(x, 1, 1, "rrr");
        Check.due("of another lane", x.sheet(1, 2, 2), 2);
        Check.due("CAST", x.item(1, 1, 0, 0), -12);
        Check.sheetHas(x, 1, 2, "rr");
        Check.fill(x, 1, 2, 1, 1, 1, 1);
        x.drop(1);
        x.sheet(1, 2, 4);
        Check.sheetHas(x, 1, 2, "rrrr");
        Check.due("drop(0)", x.drop(0), 0);
    }

    private static void drop() {
        Check.part("promise 33");
        PaleFence x = new PaleFence();
        for (int s : new int[] {MIN, -1, 4, MAX}) {
            Check.due("drop(" + s + ")", x.drop(s), -1);
        }
        for (int s = 0; s < 4; s++) {
            Check.due("drop of nothing", x.drop(s), -11);
            x.sheet(s, 0, 12 * (s + 1));
        }
        for (int s = 0; s < 4; s++) {
            Check.due("drop", x.drop(s), 12 * (s + 1));
            Check.due("drop again", x.drop(s), -11);
            Check.due("item then", x.item(s, 0, 0, 0), -11);
        }
    }

    private static void item() {
        Check.part("promise 34");
        PaleFence x = new PaleFence();
        Check.due("NULL", x.item(0, 0, 0, 1), -11);
        x.sheet(0, 1, 3);
        int[][] bad = {{-1, 1, 0}, {4, 1, 0}, {0, -1, 0}, {0, 3, 0}, {1, 3, 0}, {MAX, 1, 0}, {0, MIN, 0}};
        for (int[] b : bad) {
            Check.due("BAD", x.item(b[0], b[1], b[2], 1), -1);
        }
        Check.due("NULL ahead of INDEX", x.item(1, 1, -1, 1), -11);
        Check.due("CAST ahead of INDEX", x.item(0, 0, 3, 1), -12);
        Check.due("CAST", x.item(0, 2, 0, 1), -12);
        for (int i : new int[] {-1, 3, 48, MAX, MIN}) {
            Check.due("INDEX " + i, x.item(0, 1, i, 1), -13);
        }
        Check.sheetHas(x, 0, 1, "rrr");
        Check.due("item 0", x.item(0, 1, 0, 2), 1);
        Check.due("item 2", x.item(0, 1, 2, 1), 1);
        Check.sheetHas(x, 0, 1, "brw");
        x.sheet(0, 1, 0);
        Check.due("item of none", x.item(0, 1, 0, 1), -13);
    }

    private static void becomes(PaleFence x, int lane, int v, int answer, int colour) {
        x.sheet(0, lane, 1);
        Check.due("item", x.item(0, lane, 0, v), 1);
        Check.due("lane " + lane + ": " + v, x.build(0, lane, 0, 1), answer);
        if (answer > 0) {
            Check.due("lane " + lane + ": " + v, x.pale(0), colour);
        }
    }

    private static void lanes() {
        Check.part("promise 34, lowest bits");
        PaleFence x = new PaleFence();
        x.colours(4);
        becomes(x, 0, 256 + 3, 1, 3);
        becomes(x, 0, -256 + 2, 1, 2);
        becomes(x, 0, MIN + 1, 1, 1);
        becomes(x, 0, 128, -2, 0);
        becomes(x, 0, 255, -2, 0);
        becomes(x, 1, 65536 + 3, 1, 3);
        becomes(x, 1, 256 + 3, -2, 0);
        becomes(x, 1, -65536 + 2, 1, 2);
        becomes(x, 1, 65535, -2, 0);
        becomes(x, 2, 65536 + 3, -2, 0);
        becomes(x, 2, 256 + 3, -2, 0);
        becomes(x, 2, MIN, -2, 0);
        becomes(x, 2, 3, 1, 3);
    }

    private static void copy() {
        Check.part("promise 35");
        PaleFence x = new PaleFence();
        Check.fill(x, 0, 2, 0, 1, 2, 3, 2, 1);
        Check.fill(x, 1, 2, 0, 0, 0, 0);
        Check.due("copy", x.copy(0, 1, 1, 2, 2), 2);
        Check.sheetHas(x, 1, 2, "rrwb");
        Check.sheetHas(x, 0, 2, "rwbgbw");
        Check.due("upwards over itself", x.copy(0, 0, 0, 1, 5), 5);
        Check.sheetHas(x, 0, 2, "rrwbgb");
        Check.due("downwards over itself", x.copy(0, 2, 0, 1, 4), 4);
        Check.sheetHas(x, 0, 2, "rwbgbb");
        Check.due("onto itself", x.copy(0, 0, 0, 0, 6), 6);
        Check.sheetHas(x, 0, 2, "rwbgbb");
        Check.due("none", x.copy(0, 6, 1, 4, 0), 0);
        Check.due("none", x.copy(0, 0, 1, 0, 0), 0);
        Check.sheetHas(x, 1, 2, "rrwb");
        Check.fill(x, 2, 0, new int[48]);
        Check.fill(x, 3, 0, new int[48]);
        x.item(2, 0, 47, 3);
        x.item(2, 0, 0, 1);
        Check.due("48", x.copy(2, 0, 3, 0, 48), 48);
        Check.sheetHas(x, 3, 0, "w" + "r".repeat(46) + "g");
    }

    private static void copyRefused() {
        Check.part("promise 35, refused");
        PaleFence x = new PaleFence();
        Check.fill(x, 0, 1, 1, 2, 3);
        Check.fill(x, 1, 1, 0, 0);
        Check.fill(x, 2, 0, 0, 0, 0);
        int[][] calls = {
            {-1, 0, 0, 0, 1, -1}, {4, 0, 0, 0, 1, -1}, {0, 0, -1, 0, 1, -1}, {0, 0, 4, 0, 1, -1}, {3, 0, 4, 0, 1, -1},
            {MAX, 0, 0, 0, 1, -1}, {0, 0, MIN, 0, 1, -1}, {3, 0, 0, 0, 1, -11}, {0, 0, 3, 0, 1, -11}, {3, 0, 3, 0, -1, -11},
            {0, 0, 2, 0, 1, -12}, {0, -1, 2, 0, 1, -12}, {0, 0, 2, 0, 0, -12}, {0, 0, 1, 0, -1, -13}, {0, 0, 1, 0, 3, -13},
            {1, 0, 0, 0, 3, -13}, {0, 2, 1, 0, 2, -13}, {0, 0, 1, 1, 2, -13}, {0, -1, 1, 0, 1, -13}, {0, 0, 1, -1, 1, -13},
            {0, 4, 1, 0, 0, -13}, {0, -1, 1, 0, 0, -13}, {0, 0, 1, 3, 0, -13}, {0, 0, 1, -1, 0, -13}, {0, 0, 1, 0, MAX, -13},
            {0, MAX, 1, 0, MAX, -13}, {0, 0, 1, MAX, 1, -13}, {0, 1, 1, 0, MAX, -13}, {0, 0, 1, 0, MIN, -13}, {0, MIN, 1, 0, 1, -13},
            {0, 1, 0, 0, 3, -13}, {0, 0, 0, 1, 3, -13}};
        for (int[] c : calls) {
            String call = "copy(" + c[0] + ", " + c[1] + ", " + c[2] + ", " + c[3] + ", " + c[4] + ")";
            Check.due(call, x.copy(c[0], c[1], c[2], c[3], c[4]), c[5]);
        }
        Check.sheetHas(x, 0, 1, "wbg");
        Check.sheetHas(x, 1, 1, "rr");
        Check.sheetHas(x, 2, 0, "rrr");
    }
}
