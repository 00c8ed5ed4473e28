/** Promises 22 to 28: torn, lots, images. */
public final class TornTest {
    private static final int MIN = Integer.MIN_VALUE, MAX = Integer.MAX_VALUE;

    public static void main(String[] args) {
        tear();
        mends();
        replace();
        lots();
        lotsRefused();
        seed();
        image();
        restore();
        Check.end();
    }

    private static void tear() {
        Check.part("promise 22");
        PaleFence x = new PaleFence();
        for (int i : new int[] {MIN, -1, 0, 1, MAX}) {
            Check.due("tear(" + i + ") of none", x.tear(i), -1);
        }
        Check.reads(x, "rwrb");
        Check.due("tear(4)", x.tear(4), -1);
        Check.stands(x, "rwrb");
        Check.due("tear(3)", x.tear(3), 1);
        Check.stands(x, "rwr");
        Check.due("tear(1)", x.tear(1), 0);
        Check.stands(x, "rr");
        Check.due("tear(0)", x.tear(0), 1);
        Check.stands(x, "r");
        Check.due("tear(0) of one", x.tear(0), 1);
        Check.stands(x, "");
        Check.reads(x, "brwrwb");
        Check.due("tear(0), not lawful before and after", x.tear(0), 0);
        Check.due("tear(0), lawful then", x.tear(0), 1);
        Check.stands(x, "wrwb");
        x = Check.fenced(2, 1, 2, "rrwrr");
        Check.due("tear(2) by law 1", x.tear(2), 0);
        String row = Check.squareFree(48);
        x = Check.fenced(row);
        Check.due("tear(48)", x.tear(48), -1);
        Check.due("tear(47)", x.tear(47), 1);
        Check.due("tear(0)", x.tear(0), 1);
        Check.stands(x, row.substring(1, 47));
    }

    private static void mendsAre(int colours, int law, String row, int... sets) {
        PaleFence x = Check.fenced(colours, law, 2, row);
        for (int i = 0; i < sets.length; i++) {
            Check.due(row + ": mends(" + i + ")", x.mends(i), sets[i]);
        }
        Check.due(row + ": mends behind the last", x.mends(sets.length), -1);
        Check.due(row + ": mends(-1)", x.mends(-1), -1);
        Check.stands(x, row);
    }

    private static void mends() {
        Check.part("promise 23");
        PaleFence x = Check.fenced("rw");
        for (int i : new int[] {MIN, -1, 2, 48, MAX}) {
            Check.due("mends(" + i + ")", x.mends(i), -1);
        }
        mendsAre(3, 0, "");
        mendsAre(3, 0, "r", 7);
        mendsAre(4, 0, "r", 15);
        mendsAre(3, 0, "rrw", 6, 4, 0);
        mendsAre(3, 0, "rwrw", 4, 4, 4, 4);
        mendsAre(2, 0, "rwrw", 0, 0, 0, 0);
        mendsAre(3, 0, "rrrr", 0, 0, 0, 0);
        mendsAre(3, 0, "rwrbrwr", 5, 2, 1, 4, 1, 2, 5);
        mendsAre(2, 1, "rrr", 2, 2, 2);
        mendsAre(3, 2, "rwbwrb", 0, 0, 0, 0, 0, 2);
        Check.due("mends(47)", Check.fenced("r".repeat(47) + "w").mends(47), 0);
    }

    private static void replace() {
        Check.part("promise 24");
        PaleFence x = new PaleFence();
        Check.due("replace(0, 0) of none", x.replace(0, 0), -1);
        Check.reads(x, "rwb");
        int[][] bad = {{-1, 0}, {3, 0}, {MIN, 0}, {MAX, 0}, {0, -1}, {0, 3}, {0, 4}, {0, MAX}, {0, MIN}};
        for (int[] b : bad) {
            Check.due("replace(" + b[0] + ", " + b[1] + ")", x.replace(b[0], b[1]), -1);
        }
        Check.stands(x, "rwb");
        Check.due("replace(0, 2)", x.replace(0, 2), 0);
        Check.due("replace(2, 2)", x.replace(2, 2), 2);
        Check.stands(x, "bwb");
        Check.due("replace(1, 2), not lawful", x.replace(1, 2), 1);
        Check.stands(x, "bbb");
        Check.due("fault(0)", x.fault(0), 2);
        x.colours(4);
        Check.due("replace(2, 3)", x.replace(2, 3), 2);
        Check.stands(x, "bbg");
    }

    private static void lots() {
        Check.part("promise 25");
        // The draws behind 1 are 1103527590, 377401575, 662824084, 1147902781, 2035015474:
        // by 65536 they are 16838, 5758, 10113, 17515, 31051.
        PaleFence x = new PaleFence();
        Check.due("lots(1)", x.lots(1), 1);
        Check.stands(x, "b");
        Check.due("seed(1103527590)", x.seed(1103527590), 1103527590);
        Check.due("lots(4)", x.lots(4), 4);
        Check.stands(x, "brbwb");
        Check.due("seed(0)", x.seed(0), 2035015474);
        // From 0: 12345, by 65536 0; of r, w the 0th.
        Check.due("lots(1)", x.lots(1), 1);
        Check.stands(x, "brbwbr");
        Check.due("seed(1)", x.seed(1), 12345);
        x = Check.fenced(4, 3, 9, "");
        Check.due("lots(5) of four colours", x.lots(5), 5);
        Check.stands(x, "bbwgg");
        x = Check.fenced(4, 0, 2, "");
        x.seed(2026);
        Check.due("lots(20) of four colours", x.lots(20), 20);
        Check.stands(x, "rwbgbwgwbrwgrbrwgwrg");
        Check.due("seed(0)", x.seed(0), 617921382);
        x = Check.fenced(2, 0, 2, "");
        Check.due("lots(48) till it is stuck", x.lots(48), 3);
        Check.stands(x, "rwr");
        Check.due("the draw stays then", x.seed(5), 662824084);
        Check.due("lots(1), stuck", x.lots(1), 0);
        Check.due("the draw stays", x.seed(5), 5);
        Check.reads(x, "rr");
        Check.due("lots(3), not lawful", x.lots(3), 0);
        Check.due("the draw stays", x.seed(5), 5);
        Check.stands(x, "rr");
        x = new PaleFence();
        x.seed(MAX);
        x.rule(0, 1);
        Check.due("lots(48)", x.lots(48), 48);
        Check.due("lawful", x.fault(0), -4);
        Check.due("count(0)", x.count(0), 48);
    }

    private static void lotsRefused() {
        Check.part("promise 25, refused");
        PaleFence x = Check.fenced(Check.squareFree(47));
        for (int n : new int[] {MIN, -1, 0, 49, MAX}) {
            Check.due("lots(" + n + ")", x.lots(n), -1);
        }
        Check.due("lots(2)", x.lots(2), -3);
        Check.due("lots(48)", x.lots(48), -3);
        Check.due("the draw stays", x.seed(1), 1);
        Check.stands(x, Check.squareFree(47));
        Check.due("lots(1)", x.lots(1), 1);
        Check.due("lots(1) behind 48", x.lots(1), -3);
        Check.due("lots(49) behind 48", x.lots(49), -1);
        Check.due("FULL, if not lawful, too", Check.fenced("r".repeat(40)).lots(9), -3);
        Check.due("not lawful", Check.fenced("r".repeat(40)).lots(8), 0);
    }

    private static void seed() {
        Check.part("promise 26");
        PaleFence x = new PaleFence();
        Check.due("seed(-1)", x.seed(-1), -1);
        Check.due("seed(MIN)", x.seed(MIN), -1);
        Check.due("seed(0)", x.seed(0), 1);
        Check.due("seed(MAX)", x.seed(MAX), 0);
        Check.due("seed(-1)", x.seed(-1), -1);
        Check.due("seed(7)", x.seed(7), MAX);
    }

    private static void image() {
        Check.part("promise 27");
        PaleFence x = Check.fenced("rwb");
        Check.due("image()", x.image(), 1);
        Check.stands(x, "rwb");
        x.colours(4);
        x.paint(3);
        Check.due("restore()", x.restore(), 1);
        Check.stands(x, "rwb");
        x.paint(0);
        Check.due("image() again", x.image(), 1);
        x.scrape(4);
        Check.due("restore()", x.restore(), 1);
        Check.stands(x, "rwbr");
        Check.due("of no pale", new PaleFence().image(), 1);
    }

    private static void restore() {
        Check.part("promise 28");
        PaleFence x = Check.fenced(4, 3, 5, "rrwg");
        Check.due("restore() of none", x.restore(), -4);
        Check.stands(x, "rrwg");
        for (int c = 0; c < 4; c++) {
            x.price(c, 10 + c);
        }
        x.seed(77);
        x.sheet(0, 0, 3);
        Check.types(x, "wr");
        x.image();
        x.fence();
        for (int c = 0; c < 4; c++) {
            x.price(c, 50);
        }
        Check.due("colours(2)", x.colours(2), 4);
        x.rule(0, 1);
        x.rule(1, 9);
        x.seed(78);
        x.sheet(0, 1, 5);
        x.sheet(1, 2, 48);
        Check.types(x, "rwr");
        Check.due("restore()", x.restore(), 1);
        Check.stands(x, "rrwg");
        for (int c = 0; c < 4; c++) {
            Check.due("price", x.price(c, 20), 10 + c);
        }
        Check.due("colours", x.colours(4), 4);
        Check.due("the law", x.rule(0, 0), 3);
        Check.due("least", x.rule(1, 1), 5);
        Check.due("the draw", x.seed(1), 77);
        Check.due("the tape is not of it", x.fence(), 3);
        Check.stands(x, "rwr");
        Check.due("sheets are not of it", x.drop(0), 5);
        Check.due("sheets are not of it", x.drop(1), 48);
        Check.due("restore() again", x.restore(), 1);
        Check.stands(x, "rrwg");
        Check.due("price", x.price(1, 1), 11);
        Check.due("the draw", x.seed(1), 77);
        Check.due("restore() a third time", x.restore(), 1);
        Check.due("price", x.price(1, 1), 11);
    }
}
