/** Boundary cases of colours, fences, laws, rings and sheets that the document names ahead of its promises. */
final class EdgesTerms {
    private static final int MIN = Integer.MIN_VALUE, MAX = Integer.MAX_VALUE;

    // At the end of 48 pales, and not before, 24 have as many of each colour as the 24 ahead of them.
    private static final String ANY_OF_24 = "brbwbgbwrgrwrgbgwbgrwrbwrwgwrwbwgbgrgbwbrbgbrbwr";

    // sets, colours, prices

    @Edge(promise = {12, 23}, part = "Terms", says = "Sets are bits.")
    static void setsAreBits() {
        Check.due("no colour", Check.fenced("rwrbrwr").may(), 0);
        Check.due("colour 0 alone", Check.fenced(2, 0, 2, "w").may(), 1);
        Check.due("colour 3 alone", Check.fenced(4, 0, 2, "rwrbrwr").may(), 8);
        Check.due("all four", Check.fenced(4, 0, 2, "").may(), 15);
        Check.due("all four mend it", Check.fenced(4, 0, 2, "g").mends(0), 15);
    }

    @Edge(promise = {5, 24}, part = "Terms", says = "COLOURS are 0 .. C less 1")
    static void coloursAreUpToOneLessThanC() {
        for (int c = 2; c <= 4; c++) {
            PaleFence x = Check.fenced(c, 0, 2, "");
            Check.each("paint", x::paint, -1, MIN, -1, c, c + 1, MAX);
            Check.due("paint the least", x.paint(0), 1);
            Check.due("paint the greatest", x.paint(c - 1), 2);
            Check.due("replace by C", x.replace(0, c), -1);
            Check.due("replace by the greatest", x.replace(0, c - 1), 0);
        }
    }

    @Edge(promise = 2, part = "Terms", says = "(C 2 .. 4; 3 at first)")
    static void howManyColoursThereCanBe() {
        PaleFence x = new PaleFence();
        Check.each("colours", x::colours, -1, MIN, -1, 0, 1, 5, 6, MAX);
        x.colours(2);
        Check.due("C was 2", x.colours(4), 2);
        Check.due("C was 4", x.colours(4), 4);
    }

    @Edge(promise = {1, 2}, part = "Terms", says = "(C 2 .. 4; 3 at first)")
    static void threeColoursAtFirst() {
        Check.due("colours(4)", new PaleFence().colours(4), 3);
        Check.due("paint(2)", new PaleFence().paint(2), 1);
        Check.due("paint(3)", new PaleFence().paint(3), -1);
        Check.due("may()", new PaleFence().may(), 7);
    }

    @Edge(promise = 3, part = "Terms", says = "each with a PRICE (0 .. 99; 1 at first).")
    static void leastAndGreatestPrice() {
        PaleFence x = new PaleFence();
        for (int c = 0; c < 4; c++) {
            x.price(c, 0);
            Check.due("price(c, 99), it was 0", x.price(c, 99), 0);
            Check.due("price(c, -1)", x.price(c, -1), -1);
            Check.due("price(c, 100)", x.price(c, 100), -1);
            Check.due("price(c, 5), it was 99", x.price(c, 5), 99);
        }
    }

    @Edge(promise = {1, 3}, part = "Terms", says = "each with a PRICE (0 .. 99; 1 at first).")
    static void pricesAreOneAtFirst() {
        for (int c = 0; c < 4; c++) {
            Check.due("price(" + c + ", 7)", new PaleFence().price(c, 7), 1);
        }
        Check.due("prices of five pales", Check.fenced(4, 3, 9, "rwbgr").count(1), 5);
    }

    // the fence

    @Edge(promise = {1, 9, 30}, part = "Terms", says = "THE FENCE is a row of 0 to 48 PALES, each with a COLOUR.")
    static void aFenceOfNoPale() {
        PaleFence x = Check.fenced("r");
        Check.due("scrape(1)", x.scrape(1), 0);
        Check.due("count(0)", x.count(0), 0);
        Check.due("pale(0)", x.pale(0), -1);
        Check.due("fault(0)", x.fault(0), -4);
        Check.due("paint(0)", x.paint(0), 1);
    }

    @Edge(promise = {5, 9, 25, 30}, part = "Terms", says = "THE FENCE is a row of 0 to 48 PALES, each with a COLOUR.")
    static void aFenceOf48Pales() {
        String row = Check.squareFree(48);
        PaleFence x = new PaleFence();
        for (int i = 0; i < 48; i++) {
            Check.due("paint pale " + i, x.paint(Check.colour(row, i)), i + 1);
        }
        for (int c = 0; c < 3; c++) {
            Check.holds("paint pale 48", x.paint(c) < 0);
        }
        Check.due("lots(1)", x.lots(1), -3);
        Check.due("a text of 49", Check.reads(x, row + "r"), -68);
        x.sheet(0, 0, 48);
        Check.due("build of 49", x.build(0, 0, 0, 49), -1);
        Check.stands(x, row);
    }

    // stretches, laws

    private static void faultIs(String row, int pales, int law, int least) {
        PaleFence x = Check.fenced(4, law, least, row);
        Check.due(row + " by law " + law + ", least " + least + ": fault(0)", x.fault(0), pales);
    }

    @Edge(promise = {5, 11}, part = "Terms", says = "A STRETCH is one PALE or more, one behind the other.")
    static void aStretchOfOnePale() {
        faultIs("rr", 2, 0, 2);
        faultIs("rrr", 3, 1, 2);
        faultIs("rr", 2, 2, 2);
        faultIs("rr", 2, 3, 1);
        faultIs("r", -4, 0, 2);
    }

    @Edge(promise = {5, 11}, part = "Terms", says = "A STRETCH is one PALE or more, one behind the other.")
    static void theLongestStretches() {
        String half = Check.squareFree(24);
        faultIs(half + half, 48, 0, 2);
        faultIs((half + half).substring(0, 47), -4, 0, 2);
        faultIs(half + half, 48, 3, 9);
        String third = Check.squareFree(16);
        faultIs(third + third + third, 48, 1, 2);
        faultIs((third + third + third).substring(0, 47), -4, 1, 2);
        faultIs(ANY_OF_24, 48, 2, 2);
        faultIs(ANY_OF_24.substring(0, 47), -4, 2, 2);
    }

    @Edge(promise = {1, 4}, part = "Terms", says = "LAWS, each forbids some rows (0 at first):")
    static void lawNoughtAtFirst() {
        Check.due("rule(0, 3)", new PaleFence().rule(0, 3), 0);
        Check.due("paint(0) behind r", Check.fenced("r").paint(0), -2);
    }

    @Edge(promise = 11, part = "Terms", says = "0 TWICE: a STRETCH just as the one behind it")
    static void twice() {
        faultIs("rwrw", 4, 0, 2);
        faultIs("rwbrwb", 6, 0, 2);
        faultIs("rwbrbw", -4, 0, 2);
        faultIs("rwr", -4, 0, 2);
        faultIs("rwbrwg", -4, 0, 2);
        faultIs("rwbrwgrwb", -4, 0, 2);
    }

    @Edge(promise = 11, part = "Terms", says = "below it 1 THRICE: a STRETCH, one like it, and one like it again, one behind the other;")
    static void thrice() {
        faultIs("rr", -4, 1, 2);
        faultIs("rrr", 3, 1, 2);
        faultIs("rrwr", -4, 1, 2);
        faultIs("rwrwr", -4, 1, 2);
        faultIs("rwrwrw", 6, 1, 2);
        faultIs("rwrwbrw", -4, 1, 2);
        faultIs("rwrwrb", -4, 1, 2);
    }

    @Edge(promise = 11, part = "Terms", says = "2 ANY: a STRETCH and one behind it that has as many PALES of each COLOUR;")
    static void anyOrder() {
        faultIs("rwbrbw", 6, 2, 2);
        faultIs("rwbwr", -4, 2, 2);
        faultIs("rwbwrb", 6, 2, 2);
        faultIs("rwbwrw", -4, 2, 2);
        faultIs("rwbgbwrg", 8, 2, 2);
        faultIs("rwbgbwr", -4, 2, 2);
    }

    @Edge(promise = {4, 11}, part = "Terms", says = "3 LONG (below TWICE): as TWICE, but only STRETCHES of LEAST PALES (1 .. 9; 2 at first) or more.")
    static void longIsOfLeastPalesOrMore() {
        String row = "rwbgrwgbr";
        for (int least = 1; least <= 9; least++) {
            if (least > 1) {
                String shorter = row.substring(0, least - 1);
                faultIs(shorter + shorter, -4, 3, least);
            }
            String stretch = row.substring(0, least);
            faultIs(stretch + stretch, 2 * least, 3, least);
            String longer = Check.squareFree(least + 1);
            faultIs(longer + longer, 2 * least + 2, 3, least);
        }
    }

    @Edge(promise = 4, part = "Terms", says = "(1 .. 9; 2 at first)")
    static void leastIsOneToNine() {
        PaleFence x = new PaleFence();
        Check.each("rule(1, ..)", v -> x.rule(1, v), -1, MIN, -1, 0, 10, MAX);
        x.rule(1, 1);
        Check.due("rule(1, 9), it was 1", x.rule(1, 9), 1);
        Check.due("rule(1, 5), it was 9", x.rule(1, 5), 9);
    }

    @Edge(promise = {1, 4}, part = "Terms", says = "(1 .. 9; 2 at first)")
    static void leastIsTwoAtFirst() {
        Check.due("rule(1, 9)", new PaleFence().rule(1, 9), 2);
        PaleFence x = Check.fenced("rrr");
        x.rule(0, 3);
        Check.due("paint(0) behind rrr", x.paint(0), -2);
        x.scrape(1);
        Check.due("paint(0) behind rr", x.paint(0), 3);
    }

    @Edge(promise = {11, 5}, part = "Terms", says = "A row is LAWFUL, if nowhere in it is what THE LAW forbids.")
    static void nowhereInTheRow() {
        String row = Check.squareFree(48);
        faultIs("", -4, 0, 2);
        faultIs(row, -4, 0, 2);
        faultIs(row.charAt(0) + row.substring(0, 47), 2, 0, 2);
        faultIs(row.substring(0, 24) + row.substring(23, 47), 25, 0, 2);
        faultIs(row.substring(0, 47) + row.charAt(46), 48, 0, 2);
        Check.due("paint behind what is not lawful ahead", Check.fenced("rrwb").paint(0), -2);
    }

    // rings

    @Edge(promise = {18, 19}, part = "Terms",
        says = "A RING is so round: whatever PALE it begins with, the row of all its PALES is LAWFUL.")
    static void aRingIsLawfulAcrossItsEnd() {
        PaleFence x = new PaleFence();
        Check.due("many(3)", x.many(3), 12);
        Check.due("rings(3): rwr and its like are none", x.rings(3), 6);
        Check.due("many(5)", x.many(5), 30);
        Check.due("rings(5)", x.rings(5), 0);
        Check.due("rings(7)", x.rings(7), 0);
        Check.due("rings(8)", x.rings(8), 24);
        x.rule(0, 1);
        x.colours(2);
        Check.due("rings(8) by law 1", x.rings(8), 28);
        x.rule(0, 2);
        x.colours(4);
        Check.due("rings(8) by law 2", x.rings(8), 384);
    }

    @Edge(promise = {18, 19}, part = "Terms",
        says = "A RING is so round: whatever PALE it begins with, the row of all its PALES is LAWFUL.")
    static void aPaleIsNotBehindItself() {
        PaleFence x = new PaleFence();
        Check.due("rings(1)", x.rings(1), 3);
        Check.due("ring(1, 0)", x.ring(1, 0), 0);
        Check.due("rings(2)", x.rings(2), 6);
        x.rule(0, 1);
        Check.due("rings(2) by law 1", x.rings(2), 9);
        Check.due("ring(2, 1) by law 1", x.ring(2, 1), 0);
    }

    // sheets

    private static final String SHEETS = "sheets 0 .. 3: nothing (at first), or a row of a LANE: 0 bytes, 1 shorts, 2 ints, of 0 to 48 items.";

    @Edge(promise = {32, 33}, part = "Terms", says = SHEETS)
    static void sheetsAreNoughtToThree() {
        PaleFence x = new PaleFence();
        Check.each("sheet", s -> x.sheet(s, 0, 1), -1, MIN, -1, 4, MAX);
        for (int s = 0; s < 4; s++) {
            Check.due("sheet " + s, x.sheet(s, 0, s + 1), s + 1);
        }
        for (int s = 0; s < 4; s++) {
            Check.due("drop " + s, x.drop(s), s + 1);
        }
    }

    @Edge(promise = {1, 33}, part = "Terms", says = SHEETS)
    static void sheetsHoldNothingAtFirst() {
        PaleFence x = new PaleFence();
        for (int s = 0; s < 4; s++) {
            for (int lane = 0; lane < 3; lane++) {
                Check.due("build of none", x.build(s, lane, 0, 0), -11);
            }
            Check.due("drop(" + s + ")", x.drop(s), -11);
        }
    }

    @Edge(promise = {32, 34}, part = "Terms", says = SHEETS)
    static void lanesAreNoughtToTwo() {
        PaleFence x = new PaleFence();
        Check.each("sheet of lane", lane -> x.sheet(0, lane, 1), -1, MIN, -1, 3, MAX);
        Check.due("drop(0)", x.drop(0), -11);
        for (int lane = 0; lane < 3; lane++) {
            Check.due("sheet of lane " + lane, x.sheet(0, lane, 1), 1);
            Check.due("item", x.item(0, lane, 0, 1), 1);
        }
    }

    /** Whether an item of a lane becomes that colour by v; -1: it becomes none. */
    private static void becomes(int lane, int v, int colour) {
        PaleFence x = Check.fenced(4, 3, 9, "");
        x.sheet(0, lane, 1);
        x.item(0, lane, 0, v);
        String call = v + " in lane " + lane;
        Check.due(call, x.build(0, lane, 0, 1), colour < 0 ? -2 : 1);
        Check.due(call, x.pale(0), colour);
    }

    @Edge(promise = 34, part = "Terms", says = SHEETS)
    static void bytesShortsIntsAreAsWide() {
        becomes(0, 256 + 3, 3);
        becomes(0, 128, -1);
        becomes(0, 255, -1);
        becomes(1, 256 + 3, -1);
        becomes(1, 65536 + 2, 2);
        becomes(1, 32768, -1);
        becomes(2, 65536 + 2, -1);
        becomes(2, MIN + 1, -1);
        becomes(2, 3, 3);
    }

    @Edge(promise = {32, 33, 34, 30}, part = "Terms", says = SHEETS)
    static void aRowOfNoItem() {
        PaleFence x = Check.fenced("rw");
        Check.due("sheet of 0", x.sheet(0, 0, 0), 0);
        Check.due("item 0", x.item(0, 0, 0, 1), -13);
        Check.due("build of none", x.build(0, 0, 0, 0), 0);
        Check.due("drop(0)", x.drop(0), 0);
        Check.due("drop(0) again", x.drop(0), -11);
    }

    @Edge(promise = {32, 33, 34, 30}, part = "Terms", says = SHEETS)
    static void aRowOf48Items() {
        PaleFence x = Check.fenced("rw");
        Check.due("sheet of 49", x.sheet(0, 0, 49), -1);
        Check.due("sheet of 48", x.sheet(0, 0, 48), 48);
        Check.due("item 47", x.item(0, 0, 47, 2), 1);
        Check.due("item 48", x.item(0, 0, 48, 2), -13);
        Check.due("build", x.build(0, 0, 0, 48), 48);
        Check.due("pale(47)", x.pale(47), 2);
        Check.due("drop(0)", x.drop(0), 48);
    }
}
