/** Promises 1 to 10: fences, laws. */
public final class FencesTest {
    private static final int MIN = Integer.MIN_VALUE, MAX = Integer.MAX_VALUE;

    public static void main(String[] args) {
        newObject();
        colours();
        price();
        rule();
        paint();
        paintFull();
        scrape();
        pale();
        type();
        typeFull();
        fence();
        fenceFaults();
        count();
        Check.end();
    }

    private static void newObject() {
        Check.part("promise 1");
        PaleFence x = new PaleFence();
        for (int what = 0; what < 6; what++) {
            Check.due("count", x.count(what), 0);
        }
        Check.due("pale(0)", x.pale(0), -1);
        Check.due("scrape(1)", x.scrape(1), -2);
        Check.due("colours(3)", x.colours(3), 3);
        for (int c = 0; c < 4; c++) {
            Check.due("price(c, 1)", x.price(c, 1), 1);
        }
        Check.due("rule(0, 0)", x.rule(0, 0), 0);
        Check.due("rule(1, 2)", x.rule(1, 2), 2);
        Check.due("seed(1)", x.seed(1), 1);
        Check.due("restore()", x.restore(), -4);
        for (int s = 0; s < 4; s++) {
            Check.due("drop(s)", x.drop(s), -11);
        }
        Check.due("type(r)", x.type('r', 1), 1);
        PaleFence y = new PaleFence();
        Check.due("another object's tape", y.fence(), 0);
        Check.due("another object's fence", y.count(0), 0);
    }

    private static void colours() {
        Check.part("promise 2");
        PaleFence x = new PaleFence();
        for (int v : new int[] {MIN, -1, 0, 1, 5, MAX}) {
            Check.due("colours(" + v + ")", x.colours(v), -1);
        }
        Check.due("colours(2)", x.colours(2), 3);
        Check.due("may()", x.may(), 3);
        Check.due("colours(4)", x.colours(4), 2);
        Check.due("may()", x.may(), 15);
        Check.due("colours(4)", x.colours(4), 4);
        Check.reads(x, "rg");
        Check.due("colours(3) with a g", x.colours(3), -2);
        Check.due("colours(2) with a g", x.colours(2), -2);
        Check.due("colours(5) with a g", x.colours(5), -1);
        Check.due("colours(1) with a g", x.colours(1), -1);
        Check.due("colours(4) with a g", x.colours(4), 4);
        Check.reads(x, "rb");
        Check.due("colours(2) with a b", x.colours(2), -2);
        Check.due("colours(3) with a b", x.colours(3), 4);
        Check.reads(x, "brw");
        Check.due("colours(2), b ahead", x.colours(2), -2);
        Check.reads(x, "wr");
        Check.due("colours(2) with r, w", x.colours(2), 3);
        Check.due("colours(3) with r, w", x.colours(3), 2);
        Check.reads(x, "b");
        x.scrape(1);
        Check.due("colours(2) with no pale", x.colours(2), 3);
        Check.reads(x, "rr");
        Check.due("colours(4), not lawful", x.colours(4), 2);
        Check.stands(x, "rr");
    }

    private static void price() {
        Check.part("promise 3");
        PaleFence x = new PaleFence();
        int[][] bad = {{-1, 0}, {4, 0}, {MIN, 0}, {MAX, 0}, {0, -1}, {0, 100}, {3, MAX}, {3, MIN}};
        for (int[] b : bad) {
            Check.due("price(" + b[0] + ", " + b[1] + ")", x.price(b[0], b[1]), -1);
        }
        Check.due("price(0, 99)", x.price(0, 99), 1);
        Check.due("price(0, 100)", x.price(0, 100), -1);
        Check.due("price(0, 0)", x.price(0, 0), 99);
        Check.due("price(0, 7)", x.price(0, 7), 0);
        Check.due("price(3, 4) of three colours", x.price(3, 4), 1);
        Check.due("price(3, 5)", x.price(3, 5), 4);
        Check.due("price(1, 2)", x.price(1, 2), 1);
        Check.due("price(2, 2)", x.price(2, 2), 1);
        Check.due("price(0, 7)", x.price(0, 7), 7);
    }

    private static void rule() {
        Check.part("promise 4");
        PaleFence x = new PaleFence();
        int[][] bad = {{-1, 1}, {2, 1}, {MIN, 1}, {MAX, 1}, {0, -1}, {0, 4}, {0, MAX}, {1, 0}, {1, 10},
            {1, -1}, {1, MIN}};
        for (int[] b : bad) {
            Check.due("rule(" + b[0] + ", " + b[1] + ")", x.rule(b[0], b[1]), -1);
        }
        Check.due("rule(0, 3)", x.rule(0, 3), 0);
        Check.due("rule(0, 4)", x.rule(0, 4), -1);
        Check.due("rule(0, 1)", x.rule(0, 1), 3);
        Check.due("rule(0, 2)", x.rule(0, 2), 1);
        Check.due("rule(0, 0)", x.rule(0, 0), 2);
        Check.due("rule(1, 9)", x.rule(1, 9), 2);
        Check.due("rule(1, 10)", x.rule(1, 10), -1);
        Check.due("rule(1, 1)", x.rule(1, 1), 9);
        Check.due("rule(1, 1)", x.rule(1, 1), 1);
        Check.due("rule(0, 0)", x.rule(0, 0), 0);
        Check.reads(x, "rrwbwb");
        Check.due("fault(0)", x.fault(0), 2);
        x.rule(0, 1);
        Check.due("fault(0) by law 1", x.fault(0), -4);
        x.rule(0, 3);
        x.rule(1, 2);
        Check.due("fault(0) by law 3", x.fault(0), 6);
        x.rule(1, 3);
        Check.due("fault(0) by law 3, least 3", x.fault(0), -4);
        Check.stands(x, "rrwbwb");
    }

    private static void paint() {
        Check.part("promise 5");
        PaleFence x = new PaleFence();
        for (int c : new int[] {MIN, -1, 3, 4, MAX}) {
            Check.due("paint(" + c + ")", x.paint(c), -1);
        }
        Check.due("paint(0)", x.paint(0), 1);
        Check.due("paint(0) again", x.paint(0), -2);
        Check.due("paint(1)", x.paint(1), 2);
        Check.due("paint(0)", x.paint(0), 3);
        Check.due("paint(1)", x.paint(1), -2);
        Check.due("paint(0)", x.paint(0), -2);
        Check.due("paint(2)", x.paint(2), 4);
        Check.due("paint(3)", x.paint(3), -1);
        x.colours(4);
        Check.due("paint(3)", x.paint(3), 5);
        Check.stands(x, "rwrbg");
        Check.reads(x, "rrw");
        Check.due("paint(2) behind a row not lawful", x.paint(2), -2);
        Check.stands(x, "rrw");
        PaleFence y = Check.fenced(2, 1, 2, "rr");
        Check.due("paint(0) thrice", y.paint(0), -2);
        Check.due("paint(1)", y.paint(1), 3);
        PaleFence z = Check.fenced(3, 2, 2, "rwbwr");
        Check.due("paint(2), any order", z.paint(2), -2);
        z.rule(0, 0);
        Check.due("paint(2)", z.paint(2), 6);
    }

    private static void paintFull() {
        Check.part("promise 5, 48 pales");
        String row = Check.squareFree(49);
        PaleFence x = Check.fenced(row.substring(0, 48));
        Check.due("fault(0)", x.fault(0), -4);
        int next = "rwb".indexOf(row.charAt(48));
        int last = "rwb".indexOf(row.charAt(47));
        Check.due("paint(3)", x.paint(3), -1);
        Check.due("paint as the last", x.paint(last), -2);
        Check.due("paint the 49th", x.paint(next), -3);
        Check.due("count(0)", x.count(0), 48);
        x.scrape(1);
        Check.due("paint the 48th", x.paint(last), 48);
        Check.stands(x, row.substring(0, 48));
        PaleFence y = Check.fenced(row.substring(0, 47) + row.charAt(46));
        Check.due("paint behind 48 not lawful", y.paint(next), -2);
    }

    private static void scrape() {
        Check.part("promise 6");
        PaleFence x = new PaleFence();
        for (int n : new int[] {MIN, -1, 0, 49, MAX}) {
            Check.due("scrape(" + n + ")", x.scrape(n), -1);
        }
        Check.due("scrape(1) of none", x.scrape(1), -2);
        Check.due("scrape(48) of none", x.scrape(48), -2);
        String row = Check.squareFree(48);
        Check.reads(x, row);
        Check.due("scrape(49) of 48", x.scrape(49), -1);
        Check.due("scrape(1)", x.scrape(1), 47);
        Check.due("scrape(48) of 47", x.scrape(48), -2);
        Check.stands(x, row.substring(0, 47));
        Check.due("scrape(40)", x.scrape(40), 7);
        Check.stands(x, row.substring(0, 7));
        Check.due("scrape(8)", x.scrape(8), -2);
        Check.due("scrape(7)", x.scrape(7), 0);
        Check.reads(x, row);
        Check.due("scrape(48)", x.scrape(48), 0);
    }

    private static void pale() {
        Check.part("promise 7");
        PaleFence x = new PaleFence();
        Check.due("pale(0)", x.pale(0), -1);
        x.colours(4);
        Check.reads(x, "rgbw");
        int[] row = {0, 3, 2, 1};
        for (int i = 0; i < 4; i++) {
            Check.due("pale(" + i + ")", x.pale(i), row[i]);
        }
        for (int i : new int[] {MIN, -1, 4, 47, 48, MAX}) {
            Check.due("pale(" + i + ")", x.pale(i), -1);
        }
        Check.reads(x, Check.squareFree(47) + "g");
        Check.due("pale(47)", x.pale(47), 3);
        Check.due("pale(48)", x.pale(48), -1);
        x.scrape(1);
        Check.due("pale(47) scraped", x.pale(47), -1);
    }

    private static void type() {
        Check.part("promise 8");
        PaleFence x = new PaleFence();
        for (int n : new int[] {MIN, -1, 0, 9, MAX}) {
            Check.due("type(r, " + n + ")", x.type(Check.word("rrrrrrrr"), n), -1);
        }
        Check.due("type(31)", x.type(31, 1), -1);
        Check.due("type(127)", x.type(127, 1), -1);
        Check.due("type(128)", x.type(128, 1), -1);
        Check.due("type(255)", x.type(-1L, 8), -1);
        Check.due("type(0)", x.type(0, 1), -1);
        Check.due("one bad byte of eight", x.type(Check.word("rwbrwbr") << 8 | 10, 8), -1);
        Check.due("the highest is bad", x.type(0xE1L << 56 | Check.word("rwbrwbr"), 8), -1);
        Check.due("nothing came", x.fence(), 0);
        Check.due("type(32)", x.type(32, 1), 1);
        Check.due("type(126)", x.type(126, 1), 2);
        Check.due("the byte 126 is told", x.fence(), -21);
        Check.due("type(rwb)", x.type(Check.word("rwb"), 3), 3);
        Check.due("bytes above are not looked at", x.type(0xFF00L << 40 | Check.word("w"), 1), 4);
        Check.due("fence()", x.fence(), 4);
        Check.stands(x, "rwbw");
        Check.due("type(8)", x.type(Check.word("rwbrwrbw"), 8), 8);
        x.fence();
        Check.stands(x, "rwbrwrbw");
    }

    private static void typeFull() {
        Check.part("promise 8, 100 bytes");
        PaleFence x = new PaleFence();
        for (int k = 1; k <= 12; k++) {
            Check.due("type(8)", x.type(Check.word("        "), 8), 8 * k);
        }
        Check.due("type(5) behind 96", x.type(Check.word("rwbrw"), 5), -3);
        Check.due("type(3) behind 96", x.type(Check.word("  r"), 3), 99);
        Check.due("type(2) behind 99", x.type(Check.word("rw"), 2), -3);
        Check.due("type(1) behind 99", x.type('w', 1), 100);
        Check.due("type(1) behind 100", x.type('b', 1), -3);
        Check.due("type(8) behind 100", x.type(Check.word("rwbrwbrw"), 8), -3);
        Check.due("a bad byte behind 100", x.type(31, 1), -1);
        Check.due("a bad n behind 100", x.type('b', 0), -1);
        Check.due("fence()", x.fence(), 2);
        Check.stands(x, "rw");
        Check.due("the tape is empty", x.type('b', 1), 1);
    }

    private static void fence() {
        Check.part("promise 9");
        PaleFence x = new PaleFence();
        Check.due("fence() of an empty tape", x.fence(), 0);
        Check.due("a row", Check.reads(x, "rwb"), 3);
        Check.stands(x, "rwb");
        Check.due("blanks", Check.reads(x, "  w r   b "), 3);
        Check.stands(x, "wrb");
        Check.due("not lawful", Check.reads(x, "rrr"), 3);
        Check.stands(x, "rrr");
        Check.due("empty: no pale", x.fence(), 0);
        Check.stands(x, "");
        Check.reads(x, "rw");
        Check.due("blanks alone: no pale", Check.reads(x, "   "), 0);
        Check.stands(x, "");
        String row = Check.squareFree(48);
        Check.due("48 pales", Check.reads(x, row), 48);
        Check.stands(x, row);
        StringBuilder wide = new StringBuilder();
        for (char c : row.toCharArray()) {
            wide.append(' ').append(c);
        }
        Check.due("a full tape", Check.types(x, wide + "    "), 100);
        Check.due("48 pales of 100 bytes", x.fence(), 48);
        Check.stands(x, row);
        x.colours(4);
        Check.due("all letters", Check.reads(x, "gbwr"), 4);
        Check.stands(x, "gbwr");
    }

    private static void fenceFaults() {
        Check.part("promise 9, faults");
        PaleFence x = Check.fenced("rwb");
        Check.due("x", Check.reads(x, "x"), -20);
        Check.due("the tape is empty then", x.type('w', 1), 1);
        Check.due("fence()", x.fence(), 1);
        Check.reads(x, "rwb");
        Check.due("rwx", Check.reads(x, "rwx"), -22);
        Check.due("blanks count", Check.reads(x, " r x"), -23);
        Check.due("the first fault", Check.reads(x, "rxyz"), -21);
        Check.due("R", Check.reads(x, "rwR"), -22);
        Check.due("g of three colours", Check.reads(x, "rg"), -21);
        Check.stands(x, "rwb");
        String row = Check.squareFree(48);
        Check.due("a 49th letter", Check.reads(x, row + "r"), -68);
        Check.due("a 49th letter behind blanks", Check.reads(x, "  " + row + " r"), -71);
        Check.due("a blank behind 48", Check.reads(x, row + " "), 48);
        Check.due("the last byte of 100", Check.types(x, " ".repeat(99) + "!"), 100);
        Check.due("fence()", x.fence(), -119);
        Check.stands(x, row);
        x = Check.fenced(2, 0, 2, "rw");
        Check.due("b of two colours", Check.reads(x, "wrb"), -22);
        Check.due("~", Check.reads(x, "~"), -20);
        Check.stands(x, "rw");
    }

    private static void count() {
        Check.part("promise 10");
        PaleFence x = new PaleFence();
        for (int what : new int[] {MIN, -1, 6, 7, MAX}) {
            Check.due("count(" + what + ")", x.count(what), -1);
        }
        x.colours(4);
        x.price(0, 99);
        x.price(1, 10);
        x.price(2, 0);
        x.price(3, 5);
        Check.reads(x, "rrwbgbrg");
        int[] due = {8, 99 * 3 + 10 + 10, 3, 1, 2, 2};
        for (int what = 0; what < 6; what++) {
            Check.due("count(" + what + ")", x.count(what), due[what]);
        }
        x.price(3, 0);
        Check.due("count(1) by another price", x.count(1), 307);
        x.scrape(8);
        for (int what = 0; what < 6; what++) {
            Check.due("count(" + what + ")", x.count(what), 0);
        }
        Check.reads(x, "r".repeat(48));
        Check.due("the dearest fence", x.count(1), 48 * 99);
        Check.due("count(2)", x.count(2), 48);
    }
}
