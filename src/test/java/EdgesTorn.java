/** Boundary cases of promises 22 to 28. */
final class EdgesTorn {
    private static final int MIN = Integer.MIN_VALUE, MAX = Integer.MAX_VALUE;

    // 22 tear

    @Edge(promise = 22, says = "A PALE is TORN: whether THE FENCE is LAWFUL then (1, 0). BAD.")
    static void tearOfNoPale() {
        PaleFence x = Check.fenced("rwb");
        Check.each("tear", x::tear, -1, MIN, -1, 3, 47, MAX);
        Check.each("tear of none", new PaleFence()::tear, -1, -1, 0);
        Check.due("tear(48) of 48", Check.fenced(Check.squareFree(48)).tear(48), -1);
        Check.stands(x, "rwb");
    }

    @Edge(promise = 22, part = "Terms", says = "TORN: a PALE is taken out, its neighbours are beside each other then.")
    static void tearTheFirstAndTheLast() {
        String row = Check.squareFree(48);
        PaleFence x = Check.fenced(row);
        Check.due("the last of 48", x.tear(47), 1);
        Check.stands(x, row.substring(0, 47));
        Check.due("the first", x.tear(0), 1);
        Check.stands(x, row.substring(1, 47));
        PaleFence y = Check.fenced("r");
        Check.due("the only one", y.tear(0), 1);
        Check.stands(y, "");
    }

    @Edge(promise = 22, part = "Terms", says = "its neighbours are beside each other then.")
    static void tearBetweenLikeNeighbours() {
        PaleFence x = Check.fenced("rwrb");
        Check.due("r and r", x.tear(1), 0);
        Check.stands(x, "rrb");
        PaleFence y = Check.fenced("rwbrw");
        Check.due("w and r", y.tear(2), 0);
        Check.stands(y, "rwrw");
    }

    @Edge(promise = 22, says = "whether THE FENCE is LAWFUL then (1, 0).")
    static void tearOfAFenceNotLawful() {
        PaleFence x = Check.fenced("rrww");
        Check.due("rww", x.tear(0), 0);
        Check.due("rw", x.tear(2), 1);
        Check.stands(x, "rw");
    }

    // 23 mends

    @Edge(promise = 23, says = "MENDS of a PALE (nothing is changed by it). BAD.")
    static void mendsOfNoPale() {
        Check.each("mends", Check.fenced("rwb")::mends, -1, MIN, -1, 3, 47, MAX);
        Check.each("mends of none", new PaleFence()::mends, -1, -1, 0);
        Check.due("mends(48) of 48", Check.fenced(Check.squareFree(48)).mends(48), -1);
    }

    @Edge(promise = 23, says = "(nothing is changed by it)")
    static void mendsChangesNothing() {
        Twin.changesNothing(Twin::withTape, "mends(0)", 5, x -> x.mends(0));
        Twin.changesNothing(Twin::withTape, "mends(4)", 6, x -> x.mends(4));
        Twin.changesNothing(Twin::notLawful, "mends(1)", 4, x -> x.mends(1));
    }

    @Edge(promise = 23, part = "Terms", says = "MENDS: COLOURS by which a PALE, painted anew, makes THE FENCE LAWFUL.")
    static void mendsOfTheFirstAndTheLast() {
        PaleFence x = Check.fenced("rwrb");
        Check.due("the first", x.mends(0), 5);
        Check.due("the last", x.mends(3), 4);
        Check.due("the only one", Check.fenced("r").mends(0), 7);
        Check.due("the only one of two colours", Check.fenced(2, 0, 2, "r").mends(0), 3);
        Check.due("the 48th, b it is", Check.fenced(Check.squareFree(48)).mends(47), 4);
        Check.due("the 48th, b it was", Check.fenced(Check.squareFree(47) + "w").mends(47), 4);
    }

    @Edge(promise = 23, part = "Terms", says = "MENDS: COLOURS by which a PALE, painted anew, makes THE FENCE LAWFUL.")
    static void mendsWhereNoneDoes() {
        Check.due("a fault ahead", Check.fenced("rrwb").mends(3), 0);
        Check.due("a fault behind", Check.fenced("wbrr").mends(0), 0);
        Check.due("two colours: rrw", Check.fenced(2, 0, 2, "rrw").mends(1), 0);
        Check.due("two colours: rrwr", Check.fenced(2, 0, 2, "rrwr").mends(0), 0);
        Check.due("one of two faults", Check.fenced("rrww").mends(1), 0);
    }

    // 24 replace

    @Edge(promise = 24, says = "A PALE has another COLOUR, LAWFUL or not: what it had. BAD.")
    static void replaceOfNoPaleOrByNoColour() {
        PaleFence x = Check.fenced("rwb");
        Check.each("replace(.., 0)", i -> x.replace(i, 0), -1, MIN, -1, 3, 47, MAX);
        Check.each("replace(0, ..)", c -> x.replace(0, c), -1, MIN, -1, 3, MAX);
        Check.due("replace(0, 0) of none", new PaleFence().replace(0, 0), -1);
        Check.due("replace(0, 2) of two colours", Check.fenced(2, 0, 2, "rw").replace(0, 2), -1);
        Check.due("replace(0, 3) of four", Check.fenced(4, 0, 2, "rw").replace(0, 3), 0);
        Check.stands(x, "rwb");
    }

    @Edge(promise = 24, says = "A PALE has another COLOUR, LAWFUL or not: what it had.")
    static void replaceLawfulOrNot() {
        PaleFence x = Check.fenced("rwb");
        Check.due("the first, not lawful then", x.replace(0, 1), 0);
        Check.due("the last, not lawful", x.replace(2, 1), 2);
        Check.stands(x, "www");
        Check.due("the colour it has", x.replace(1, 1), 1);
        Check.due("lawful then", x.replace(1, 2), 1);
        Check.stands(x, "wbw");
        PaleFence y = Check.fenced("r".repeat(48));
        Check.due("the 48th", y.replace(47, 2), 0);
        Check.stands(y, "r".repeat(47) + "b");
    }

    // 25 lots, 26 seed

    @Edge(promise = 25, says = "LOTS, n PALES at most (1 .. 48): how many are painted. BAD;")
    static void lotsOfNoneOrMoreThan48() {
        PaleFence x = new PaleFence();
        Check.each("lots", x::lots, -1, MIN, -1, 0, 49, MAX);
        Check.each("lots behind 48", Check.fenced(Check.squareFree(48))::lots, -1, 0, 49);
    }

    @Edge(promise = 25, says = "LOTS, n PALES at most (1 .. 48): how many are painted.")
    static void lotsOfOneAnd48() {
        PaleFence x = new PaleFence();
        Check.due("lots(1)", x.lots(1), 1);
        Check.due("count(0)", x.count(0), 1);
        PaleFence y = Check.fenced(3, 1, 2, "");
        Check.due("lots(48)", y.lots(48), 48);
        Check.due("count(0)", y.count(0), 48);
        Check.due("fault(0)", y.fault(0), -4);
    }

    @Edge(promise = 25, says = "FULL: there would be more than 48 with n.")
    static void lotsOfMoreThan48Together() {
        PaleFence x = Check.fenced(Check.squareFree(47));
        Check.each("lots behind 47", x::lots, -3, 2, 3, 48);
        Check.stands(x, Check.squareFree(47));
        Check.due("lots(1) behind 47", x.lots(1), 1);
        Check.each("lots behind 48", x::lots, -3, 1, 48);
        Check.due("the draw is the one of one lot", x.seed(0), 1103527590);
    }

    @Edge(promise = 25, says = "FULL: there would be more than 48 with n.")
    static void lotsOfMoreThan48WhereNoneMayCome() {
        Check.due("not lawful", Check.fenced("r".repeat(40)).lots(9), -3);
        Check.due("not lawful, 48 with n", Check.fenced("r".repeat(40)).lots(8), 0);
        Check.due("stuck", Check.fenced("rwrbrwr").lots(42), -3);
        Check.due("stuck, 48 with n", Check.fenced("rwrbrwr").lots(41), 0);
    }

    @Edge(promise = 25, part = "Terms", says = "till none MAY (THE DRAW stays then), or so many are painted.")
    static void lotsTillNoneMay() {
        // Of two colours, from 1 on: r or w, and two forced ones; then none may come.
        PaleFence x = Check.fenced(2, 0, 2, "");
        Check.due("lots(48)", x.lots(48), 3);
        Check.due("three draws", x.seed(662824084), 662824084);
        Check.due("lots(1), stuck", x.lots(1), 0);
        Check.due("the draw stays", x.seed(5), 662824084);
        PaleFence y = Check.fenced("rr");
        Check.due("lots(1), not lawful", y.lots(1), 0);
        Check.due("the draw stays", y.seed(5), 1);
    }

    @Edge(promise = 25, part = "Terms", says = "or so many are painted.")
    static void lotsTillSoManyArePainted() {
        PaleFence x = new PaleFence();
        Check.due("lots(2)", x.lots(2), 2);
        Check.stands(x, "br");
        Check.due("two draws", x.seed(0), 377401575);
    }

    @Edge(promise = 25, part = "Terms", says = "for each PALE it becomes the lowest 31 bits of itself times 1103515245 and 12345 more;")
    static void theLowest31Bits() {
        draws(0, 12345);
        draws(1, 1103527590);
        draws(MAX, 1043980748);
        draws(1 << 30, 1073754169);
        draws(1103527590, 377401575);
    }

    private static void draws(int from, int to) {
        PaleFence x = new PaleFence();
        x.seed(from);
        Check.due("lots(1) from " + from, x.lots(1), 1);
        Check.due("the draw then", x.seed(0), to);
    }

    @Edge(promise = 25, part = "Terms", says = "of COLOURS that MAY come, from the least on, that one is painted behind THE FENCE which as many lie "
        + "ahead of as is THE DRAW by 65536 (cut), as a remainder by how many there are;")
    static void theColourDrawn() {
        // 12345 by 65536 is 0; 1103527590: 16838, which leaves 2 of 3, 0 of 2, 2 of 4; 1043980748: 15929, 2 of 3, 1 of 2.
        drawn(new PaleFence(), 0, "r");
        drawn(Check.fenced("r"), 0, "rw");
        drawn(Check.fenced("rw"), 0, "rwr");
        drawn(Check.fenced("rwr"), 0, "rwrb");
        drawn(new PaleFence(), 1, "b");
        drawn(Check.fenced("r"), 1, "rw");
        drawn(Check.fenced(4, 0, 2, ""), 1, "b");
        drawn(new PaleFence(), MAX, "b");
        drawn(Check.fenced("r"), MAX, "rb");
        drawn(Check.fenced("b"), MAX, "bw");
        drawn(Check.fenced("rwr"), MAX, "rwrb");
    }

    @Edge(promise = 25, part = "Terms", says = "as is THE DRAW by 65536 (cut), as a remainder by how many there are;")
    static void theDrawIsCut() {
        // The draws become 65535, 65536, 131071, 131072, 2^31 - 1 and 0: by 65536 cut 0, 1, 1, 2, 32767 and 0.
        int[] from = {2032319262, 1742513795, 1686616862, 1396811395, 230538014, 2088216195};
        int[] draws = {65535, 65536, 131071, 131072, MAX, 0};
        String rows = "rwwbwr";
        for (int k = 0; k < from.length; k++) {
            PaleFence x = new PaleFence();
            drawn(x, from[k], rows.substring(k, k + 1));
            Check.due("the draw", x.seed(0), draws[k]);
        }
    }

    private static void drawn(PaleFence x, int from, String row) {
        x.seed(from);
        x.lots(1);
        Check.stands(x, row);
    }

    @Edge(promise = {26, 1}, part = "Terms", says = "LOTS: THE DRAW is a number of 31 bits (1 at first);")
    static void theDrawIsOneAtFirst() {
        Check.due("seed(0)", new PaleFence().seed(0), 1);
    }

    @Edge(promise = 26, part = "Terms", says = "LOTS: THE DRAW is a number of 31 bits (1 at first);")
    static void theDrawHas31Bits() {
        PaleFence x = new PaleFence();
        Check.due("seed(MAX)", x.seed(MAX), 1);
        Check.due("seed(0)", x.seed(0), MAX);
        Check.due("seed(5)", x.seed(5), 0);
        PaleFence y = Check.fenced(3, 1, 2, "");
        for (int k = 0; k < 48; k++) {
            y.lots(1);
            int draw = y.seed(0);
            Check.holds("the draw is not below 0", draw >= 0);
            y.seed(draw);
        }
    }

    @Edge(promise = 26, says = "BAD: below 0.")
    static void seedBelowNought() {
        PaleFence x = new PaleFence();
        Check.each("seed", x::seed, -1, MIN, MIN + 1, -2, -1);
        Check.due("seed(0)", x.seed(0), 1);
        Check.due("seed(1)", x.seed(1), 0);
    }

    // 27 image, 28 restore

    @Edge(promise = 27, says = "All but SHEETS, THE TAPE is kept as an IMAGE: 1.")
    static void allButSheetsAndTheTapeIsKept() {
        PaleFence x = Twin.common();
        Check.due("image()", x.image(), 1);
        x.fence();
        x.colours(4);
        x.rule(0, 2);
        x.rule(1, 9);
        for (int c = 0; c < 4; c++) {
            x.price(c, 99);
        }
        x.seed(0);
        Check.due("restore()", x.restore(), 1);
        PaleFence y = Twin.common();
        y.image();
        Twin.same("restore()", x, y);
    }

    @Edge(promise = 27, says = "All but SHEETS, THE TAPE is kept as an IMAGE: 1.")
    static void sheetsAndTheTapeAreNotKept() {
        PaleFence x = Twin.withTape();
        x.image();
        Check.types(x, "rw");
        x.drop(0);
        x.item(1, 1, 0, 0);
        x.sheet(3, 2, 4);
        Check.due("restore()", x.restore(), 1);
        Check.due("the tape is as it was left", x.type('b', 1), 6);
        Check.due("drop(0)", x.drop(0), -11);
        Check.due("build", x.build(1, 1, 0, 2), 2);
        Check.stands(x, "rw");
        Check.due("drop(3)", x.drop(3), 4);
        x.restore();
        Check.due("fence()", x.fence(), 6);
        Check.stands(x, "bwrrwb");
    }

    @Edge(promise = 27, says = "is kept as an IMAGE: 1.")
    static void imageOfNoPaleAndOf48() {
        PaleFence x = new PaleFence();
        Check.due("image() of no pale", x.image(), 1);
        Check.reads(x, Check.squareFree(48));
        x.restore();
        Check.stands(x, "");
        Check.reads(x, Check.squareFree(48));
        Check.due("image() of 48", x.image(), 1);
        x.scrape(48);
        Check.reads(x, "bbb");
        x.restore();
        Check.stands(x, Check.squareFree(48));
    }

    @Edge(promise = 28, says = "NONE: there is none.")
    static void restoreOfNone() {
        PaleFence x = Check.fenced("rwb");
        Check.due("restore()", x.restore(), -4);
        Check.due("restore() again", x.restore(), -4);
        Check.stands(x, "rwb");
    }

    @Edge(promise = 28, says = "All is as it was then: 1.")
    static void restoreAgainAndOfTheLastImage() {
        PaleFence x = Check.fenced("rwb");
        x.image();
        x.scrape(3);
        Check.due("restore()", x.restore(), 1);
        Check.stands(x, "rwb");
        x.replace(1, 0);
        Check.due("restore() again", x.restore(), 1);
        Check.stands(x, "rwb");
        x.paint(0);
        x.image();
        x.paint(1);
        Check.due("of the last image", x.restore(), 1);
        Check.stands(x, "rwbr");
    }
}
