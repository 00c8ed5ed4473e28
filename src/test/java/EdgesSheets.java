/** Boundary cases of promises 29 to 35. */
final class EdgesSheets {
    private static final int MIN = Integer.MIN_VALUE, MAX = Integer.MAX_VALUE;

    // 29 storm

    private static final String STORM = "the numbers of n PALES (1 .. 4; rising), items of a SHEET, taken as a row of a LANE, from one on: "
        + "how many ways (-1), the COLOUR of the i-th of these by the first way (0 .. n - 1). BAD;";

    /** A fence, and a sheet 0 of ints with these numbers of pales. */
    private static PaleFence stormed(PaleFence x, int... pales) {
        Check.fill(x, 0, 2, pales);
        return x;
    }

    private static void stormIs(PaleFence x, int n, int ways, String first) {
        String row = Check.shown(x);
        Check.due("ways", x.storm(0, 2, 0, n, -1), ways);
        for (int i = 0; i < n; i++) {
            Check.due("the first way's " + i, x.storm(0, 2, 0, n, i), first.isEmpty() ? -4 : Check.colour(first, i));
        }
        Check.stands(x, row);
    }

    @Edge(promise = 29, says = STORM)
    static void stormOfNoPaleOrMoreThanFour() {
        PaleFence x = stormed(Check.fenced("rwbrwbr"), 0, 1, 2, 3, 4);
        Check.each("storm of n", n -> x.storm(0, 2, 0, n, -1), -1, MIN, -1, 0, 5, MAX);
        Check.each("storm of n", n -> x.storm(0, 2, 0, n, 0), -1, 0, 5);
    }

    @Edge(promise = 29, says = STORM)
    static void stormAskedForNoPale() {
        PaleFence x = stormed(Check.fenced("rwbr"), 0, 1, 2, 3);
        Check.each("storm of 4", i -> x.storm(0, 2, 0, 4, i), -1, MIN, -2, 4, 5, MAX);
        Check.each("storm of 1", i -> x.storm(0, 2, 0, 1, i), -1, -2, 1);
        Check.holds("storm of 4", x.storm(0, 2, 0, 4, 3) >= 0);
    }

    @Edge(promise = 29, says = STORM)
    static void stormOfNoSheetOrLane() {
        PaleFence x = stormed(Check.fenced("rwbr"), 0);
        Check.each("storm of sheet", s -> x.storm(s, 2, 0, 1, -1), -1, MIN, -1, 4, MAX);
        Check.each("storm of lane", lane -> x.storm(0, lane, 0, 1, -1), -1, MIN, -1, 3, MAX);
    }

    @Edge(promise = 29, says = "BAD; NULL; CAST; INDEX;")
    static void stormOfItemsThatThereAreNot() {
        PaleFence x = stormed(Check.fenced("rwbr"), 0, 1, 2);
        Check.due("NULL", x.storm(1, 2, 0, 1, -1), -11);
        Check.due("CAST", x.storm(0, 1, 0, 1, -1), -12);
        Check.each("from", from -> x.storm(0, 2, from, 1, -1), -13, MIN, -1, 3, 4, MAX);
        Check.each("4 from", from -> x.storm(0, 2, from, 4, -1), -13, -1, 0, MAX);
        Check.due("3 from 0 on", x.storm(0, 2, 0, 3, -1), 6);
        Check.due("3 from 1 on", x.storm(0, 2, 1, 3, -1), -13);
        Check.due("the last alone", x.storm(0, 2, 2, 1, -1), 1);
    }

    @Edge(promise = 29, says = "NOT: they are not as told;")
    static void stormOfNumbersThatDoNotRise() {
        PaleFence x = stormed(Check.fenced("rwbr"), 1, 1, 0, 2, 3, 3);
        Check.due("1 1", x.storm(0, 2, 0, 2, -1), -2);
        Check.due("1 0", x.storm(0, 2, 1, 2, -1), -2);
        Check.due("0 2 3 3", x.storm(0, 2, 2, 4, 0), -2);
        Check.due("0 2 3", x.storm(0, 2, 2, 3, -1), 6);
    }

    @Edge(promise = 29, says = "NOT: they are not as told;")
    static void stormOfNumbersOfNoPale() {
        PaleFence x = stormed(Check.fenced("rwbr"), -1, 3, 4, MAX, MIN);
        Check.due("-1", x.storm(0, 2, 0, 1, -1), -2);
        Check.due("-1 3", x.storm(0, 2, 0, 2, 0), -2);
        Check.due("3", x.storm(0, 2, 1, 1, -1), 2);
        Check.due("3 4", x.storm(0, 2, 1, 2, -1), -2);
        Check.due("4", x.storm(0, 2, 2, 1, -1), -2);
        Check.due("MAX", x.storm(0, 2, 3, 1, -1), -2);
        Check.due("MIN", x.storm(0, 2, 4, 1, -1), -2);
        x.scrape(4);
        Check.due("3 of no pale", x.storm(0, 2, 1, 1, -1), -2);
    }

    @Edge(promise = 29, says = "NONE: there are none (0 ..).")
    static void stormOfNoWay() {
        stormIs(stormed(Check.fenced("rrwb"), 3), 1, 0, "");
        stormIs(stormed(Check.fenced("wbrr"), 0, 1), 2, 0, "");
        stormIs(stormed(Check.fenced("rwwb"), 0, 3), 2, 0, "");
        stormIs(stormed(Check.fenced(2, 0, 2, "rwrw"), 0, 1, 2, 3), 4, 0, "");
    }

    @Edge(promise = 29, part = "Terms",
        says = "STORM: some PALES (1 .. 4) lost their COLOURS: in how many ways they can be painted so that it is LAWFUL; the first (by PALES).")
    static void stormOfOnePaleAndOfFour() {
        stormIs(stormed(Check.fenced("rwrb"), 0), 1, 2, "r");
        stormIs(stormed(Check.fenced("rwrb"), 3), 1, 1, "b");
        stormIs(stormed(Check.fenced("rrrr"), 0, 1, 2, 3), 4, 18, "rwrb");
        stormIs(stormed(Check.fenced(4, 3, 9, "rrrr"), 0, 1, 2, 3), 4, 256, "rrrr");
        stormIs(stormed(Check.fenced("bwrb"), 0, 3), 2, 3, "rb");
    }

    @Edge(promise = 29, part = "Terms", says = "STORM: some PALES (1 .. 4) lost their COLOURS:")
    static void stormOfTheLastOf48() {
        stormIs(stormed(Check.fenced(Check.squareFree(47) + "w"), 47), 1, 1, "b");
        Check.due("a 49th", stormed(Check.fenced(Check.squareFree(48)), 48).storm(0, 2, 0, 1, -1), -2);
    }

    @Edge(promise = 29, part = "Terms", says = "the first (by PALES).")
    static void stormAskedAgain() {
        PaleFence x = stormed(Check.fenced("rwrb"), 0, 3);
        stormIs(x, 2, 3, "rb");
        stormIs(x, 1, 2, "r");
        x.replace(1, 2);
        x.far(16);
        stormIs(x, 2, 3, "rw");
        x.replace(1, 0);
        stormIs(x, 2, 0, "");
    }

    // 30 build

    @Edge(promise = 30, says = "n items (0 .. 48) of a SHEET likewise are COLOURS of THE FENCE, LAWFUL or not: n. BAD;")
    static void buildOfFewerOrMore() {
        PaleFence x = Check.fenced("rwb");
        x.sheet(0, 0, 48);
        Check.each("build of n", n -> x.build(0, 0, 0, n), -1, MIN, -1, 49, MAX);
        Check.each("build of sheet", s -> x.build(s, 0, 0, 1), -1, MIN, -1, 4, MAX);
        Check.each("build of lane", lane -> x.build(0, lane, 0, 1), -1, MIN, -1, 3, MAX);
        Check.stands(x, "rwb");
    }

    @Edge(promise = 30, says = "n items (0 .. 48) of a SHEET likewise are COLOURS of THE FENCE, LAWFUL or not: n.")
    static void buildOfNoneAndOf48() {
        PaleFence x = Check.fenced("rwb");
        x.sheet(0, 0, 48);
        x.item(0, 0, 47, 2);
        Check.due("of 48", x.build(0, 0, 0, 48), 48);
        Check.stands(x, "r".repeat(47) + "b");
        Check.due("it is not lawful", x.fault(0), 2);
        Check.due("of none", x.build(0, 0, 0, 0), 0);
        Check.stands(x, "");
        Check.reads(x, "rw");
        Check.due("of none, from the end on", x.build(0, 0, 48, 0), 0);
        Check.stands(x, "");
    }

    @Edge(promise = 30, says = "BAD; NULL; CAST; INDEX;")
    static void buildOfItemsThatThereAreNot() {
        PaleFence x = Check.fenced("rwb");
        Check.fill(x, 0, 1, 2, 1, 0);
        Check.due("NULL", x.build(1, 1, 0, 1), -11);
        Check.due("NULL of none", x.build(1, 1, 0, 0), -11);
        Check.due("CAST", x.build(0, 0, 0, 1), -12);
        Check.due("CAST of none", x.build(0, 2, 0, 0), -12);
        Check.each("1 from", from -> x.build(0, 1, from, 1), -13, MIN, -1, 3, MAX);
        Check.each("none from", from -> x.build(0, 1, from, 0), -13, MIN, -1, 4, MAX);
        Check.each("48 from", from -> x.build(0, 1, from, 48), -13, -1, 0, MAX);
        Check.due("4 from 0 on", x.build(0, 1, 0, 4), -13);
        Check.due("3 from 1 on", x.build(0, 1, 1, 3), -13);
        Check.stands(x, "rwb");
        Check.due("the last", x.build(0, 1, 2, 1), 1);
        Check.due("all", x.build(0, 1, 0, 3), 3);
        Check.stands(x, "bwr");
    }

    @Edge(promise = 30, says = "NOT: one is no COLOUR.")
    static void buildOfWhatIsNoColour() {
        PaleFence x = Check.fenced("rw");
        Check.fill(x, 0, 2, 0, 1, 2, 3, -1, 4, MAX, MIN);
        Check.due("3 of three, the last", x.build(0, 2, 0, 4), -2);
        Check.due("3 of three, the first", x.build(0, 2, 3, 1), -2);
        Check.stands(x, "rw");
        x.colours(4);
        Check.due("3 of four", x.build(0, 2, 0, 4), 4);
        for (int i = 4; i < 8; i++) {
            Check.due("no colour at all", x.build(0, 2, i, 1), -2);
        }
        Check.due("one of five", x.build(0, 2, 0, 5), -2);
        Check.stands(x, "rwbg");
        PaleFence y = Check.fenced(2, 0, 2, "w");
        Check.fill(y, 0, 2, 0, 1, 2);
        Check.due("2 of two", y.build(0, 2, 0, 3), -2);
        Check.due("1 of two", y.build(0, 2, 0, 2), 2);
    }

    // 31 film

    @Edge(promise = 31, says = "COLOURS of all PALES come to a SHEET, taken as a row of a LANE, from one on: how many. BAD; NULL; CAST;")
    static void filmToNoSheetOrLane() {
        PaleFence x = Check.fenced("rwb");
        x.sheet(0, 0, 3);
        Check.each("film to sheet", s -> x.film(s, 0, 0), -1, MIN, -1, 4, MAX);
        Check.each("film to lane", lane -> x.film(0, lane, 0), -1, MIN, -1, 3, MAX);
        Check.due("NULL", x.film(1, 0, 0), -11);
        Check.due("CAST", x.film(0, 1, 0), -12);
        x.scrape(3);
        Check.due("NULL of none", x.film(1, 0, 0), -11);
        Check.due("CAST of none", x.film(0, 2, 0), -12);
    }

    @Edge(promise = 31, says = "INDEX (of none, too: from below 0, or above how many there are).")
    static void filmOfNoneOutside() {
        PaleFence x = new PaleFence();
        x.sheet(0, 0, 3);
        Check.each("film of none", from -> x.film(0, 0, from), -13, MIN, -1, 4, MAX);
        Check.each("film of none", from -> x.film(0, 0, from), 0, 0, 1, 3);
        x.sheet(0, 0, 0);
        Check.due("film of none to none", x.film(0, 0, 0), 0);
        Check.each("film of none to none", from -> x.film(0, 0, from), -13, -1, 1);
    }

    @Edge(promise = 31, says = "INDEX (of none, too: from below 0, or above how many there are).")
    static void filmOutside() {
        PaleFence x = Check.fenced("rwb");
        Check.fill(x, 0, 0, 2, 2, 2, 2, 2);
        Check.each("film", from -> x.film(0, 0, from), -13, MIN, -1, 3, 4, 5, 6, MAX);
        Check.due("up to the last item", x.film(0, 0, 2), 3);
        Check.sheetHas(x, 0, 0, "bbrwb");
    }

    @Edge(promise = 31, says = "COLOURS of all PALES come to a SHEET, taken as a row of a LANE, from one on: how many.")
    static void filmOf48() {
        PaleFence x = Check.fenced(Check.squareFree(48));
        x.sheet(0, 1, 48);
        x.sheet(1, 1, 47);
        Check.due("48 to 48", x.film(0, 1, 0), 48);
        Check.due("48 to 48 from 1 on", x.film(0, 1, 1), -13);
        Check.due("48 to 47", x.film(1, 1, 0), -13);
        Check.reads(x, "");
        Check.sheetHas(x, 0, 1, Check.squareFree(48));
    }

    // 32 sheet, 33 drop

    @Edge(promise = 32, says = "A SHEET holds a new row of a LANE: n. BAD: also n above 48;")
    static void sheetOfMoreThan48() {
        PaleFence x = new PaleFence();
        Check.each("sheet of n", n -> x.sheet(0, 0, n), -1, 49, 50, MAX);
        Check.due("nothing is held", x.drop(0), -11);
        Check.due("sheet of 48", x.sheet(0, 0, 48), 48);
        Check.due("sheet of 0", x.sheet(0, 0, 0), 0);
        Check.due("0 are held", x.drop(0), 0);
    }

    @Edge(promise = 32, says = "A SHEET holds a new row of a LANE: n. BAD:")
    static void sheetOfNoNumberOrLane() {
        PaleFence x = new PaleFence();
        Check.each("sheet", s -> x.sheet(s, 0, 1), -1, MIN, -1, 4, MAX);
        Check.each("lane", lane -> x.sheet(0, lane, 1), -1, MIN, -1, 3, MAX);
    }

    @Edge(promise = 32, says = "SIZE: n below 0.")
    static void sheetOfFewerThanNone() {
        PaleFence x = new PaleFence();
        Check.each("sheet of n", n -> x.sheet(3, 2, n), -14, MIN, -49, -1);
        Check.due("nothing is held", x.drop(3), -11);
    }

    @Edge(promise = 32, says = "A SHEET holds a new row of a LANE: n.")
    static void sheetInPlaceOfAnother() {
        PaleFence x = Check.fenced("");
        Check.fill(x, 0, 0, 1, 2, 1);
        Check.due("a new one", x.sheet(0, 0, 3), 3);
        Check.sheetHas(x, 0, 0, "rrr");
        Check.due("of another lane", x.sheet(0, 1, 2), 2);
        Check.due("it was of bytes", x.item(0, 0, 0, 1), -12);
        Check.sheetHas(x, 0, 1, "rr");
    }

    @Edge(promise = 33, says = "A SHEET holds nothing: how many items it had. BAD; NULL.")
    static void dropOfNoSheet() {
        PaleFence x = new PaleFence();
        Check.each("drop", x::drop, -1, MIN, -1, 4, MAX);
    }

    @Edge(promise = 33, says = "A SHEET holds nothing: how many items it had. BAD; NULL.")
    static void dropOfNothing() {
        PaleFence x = new PaleFence();
        Check.each("drop", x::drop, -11, 0, 1, 2, 3);
        x.sheet(3, 2, 48);
        x.sheet(0, 0, 0);
        Check.due("drop of 48", x.drop(3), 48);
        Check.due("drop again", x.drop(3), -11);
        Check.due("drop of none", x.drop(0), 0);
        Check.due("drop again", x.drop(0), -11);
    }

    // 34 item

    @Edge(promise = 34, says = "becomes v, its lowest bits (with its sign): 1. BAD; NULL; CAST; INDEX.")
    static void itemOfNoSheetOrLane() {
        PaleFence x = new PaleFence();
        x.sheet(0, 0, 3);
        Check.each("item of sheet", s -> x.item(s, 0, 0, 1), -1, MIN, -1, 4, MAX);
        Check.each("item of lane", lane -> x.item(0, lane, 0, 1), -1, MIN, -1, 3, MAX);
        Check.due("NULL", x.item(1, 0, 0, 1), -11);
        Check.each("CAST", lane -> x.item(0, lane, 0, 1), -12, 1, 2);
    }

    @Edge(promise = 34, says = "BAD; NULL; CAST; INDEX.")
    static void itemAheadOfTheFirstOrBehindTheLast() {
        PaleFence x = new PaleFence();
        x.sheet(0, 0, 3);
        Check.each("item", i -> x.item(0, 0, i, 1), -13, MIN, -1, 3, 47, 48, MAX);
        Check.each("item", i -> x.item(0, 0, i, 1), 1, 0, 2);
        Check.sheetHas(x, 0, 0, "wrw");
        x.sheet(1, 0, 0);
        Check.due("item of none", x.item(1, 0, 0, 1), -13);
    }

    @Edge(promise = 34, says = "becomes v, its lowest bits (with its sign): 1.")
    static void itemBecomesTheLowestBits() {
        itemIs(0, 259, "g");
        itemIs(0, -254, "b");
        itemIs(0, MIN, "r");
        itemIs(0, 127, "");
        itemIs(0, 128, "");
        itemIs(0, -1, "");
        itemIs(1, 65539, "g");
        itemIs(1, -65534, "b");
        itemIs(1, MIN, "r");
        itemIs(1, 256, "");
        itemIs(1, -1, "");
        itemIs(2, 65536, "");
        itemIs(2, MIN, "");
        itemIs(2, MAX, "");
        itemIs(2, 3, "g");
    }

    /** The colour that an item of a lane is by v, of four; none. */
    private static void itemIs(int lane, int v, String colour) {
        PaleFence x = Check.fenced(4, 3, 9, "");
        x.sheet(0, lane, 1);
        Check.due("item", x.item(0, lane, 0, v), 1);
        Check.due(v + " in lane " + lane, x.build(0, lane, 0, 1), colour.isEmpty() ? -2 : 1);
        Check.stands(x, colour);
    }

    // 35 copy

    /** Sheets 0 and 1 of three and two bytes, 2 of three ints; sheet 3 holds nothing. */
    private static PaleFence copied() {
        PaleFence x = new PaleFence();
        Check.fill(x, 0, 0, 0, 1, 2);
        Check.fill(x, 1, 0, 2, 2);
        Check.fill(x, 2, 2, 1, 1, 1);
        return x;
    }

    @Edge(promise = 35, says = "as if all were taken ahead: n. BAD; NULL (either); CAST: of unlike LANES;")
    static void copyOfNoSheet() {
        PaleFence x = copied();
        Check.each("copy from", s -> x.copy(s, 0, 0, 0, 1), -1, MIN, -1, 4, MAX);
        Check.each("copy to", s -> x.copy(0, 0, s, 0, 1), -1, MIN, -1, 4, MAX);
    }

    @Edge(promise = 35, says = "NULL (either);")
    static void copyOfASheetMissing() {
        PaleFence x = copied();
        Check.due("from it", x.copy(3, 0, 0, 0, 1), -11);
        Check.due("to it", x.copy(0, 0, 3, 0, 1), -11);
        Check.due("both", x.copy(3, 0, 3, 0, 1), -11);
        Check.due("none from it", x.copy(3, 0, 0, 0, 0), -11);
        Check.due("none to it", x.copy(0, 0, 3, 0, 0), -11);
    }

    @Edge(promise = 35, says = "CAST: of unlike LANES;")
    static void copyOfUnlikeLanes() {
        PaleFence x = copied();
        Check.due("bytes to ints", x.copy(0, 0, 2, 0, 1), -12);
        Check.due("ints to bytes", x.copy(2, 0, 0, 0, 1), -12);
        Check.due("none", x.copy(0, 0, 2, 0, 0), -12);
        x.sheet(3, 1, 3);
        Check.due("bytes to shorts", x.copy(0, 0, 3, 0, 1), -12);
        Check.due("shorts to ints", x.copy(3, 0, 2, 0, 1), -12);
        Check.sheetHas(x, 0, 0, "rwb");
    }

    private static final String COPY_INDEX = "INDEX (n below 0, too; with n 0, too, if i or j is below 0 or above how many there are).";

    @Edge(promise = 35, says = COPY_INDEX)
    static void copyOfFewerThanNone() {
        PaleFence x = copied();
        Check.each("n", n -> x.copy(0, 0, 1, 0, n), -13, MIN, -2, -1);
        Check.due("backwards", x.copy(0, 2, 1, 1, -1), -13);
        Check.sheetHas(x, 1, 0, "bb");
    }

    @Edge(promise = 35, says = COPY_INDEX)
    static void copyOfNoneOutside() {
        PaleFence x = copied();
        Check.each("i", i -> x.copy(0, i, 1, 0, 0), -13, MIN, -1, 4, MAX);
        Check.each("j", j -> x.copy(0, 0, 1, j, 0), -13, MIN, -1, 3, MAX);
        Check.each("i", i -> x.copy(0, i, 1, 0, 0), 0, 0, 3);
        Check.each("j", j -> x.copy(0, 0, 1, j, 0), 0, 0, 2);
        Check.sheetHas(x, 1, 0, "bb");
    }

    @Edge(promise = 35, says = COPY_INDEX)
    static void copyOutside() {
        PaleFence x = copied();
        Check.due("three to two", x.copy(0, 0, 1, 0, 3), -13);
        Check.due("three from two", x.copy(1, 0, 0, 0, 3), -13);
        Check.each("i of 1", i -> x.copy(0, i, 1, 0, 1), -13, MIN, -1, 3, MAX);
        Check.each("j of 1", j -> x.copy(0, 0, 1, j, 1), -13, MIN, -1, 2, MAX);
        Check.each("n", n -> x.copy(0, 1, 0, 0, n), -13, 3, 48, MAX);
        Check.each("n, and i", n -> x.copy(0, n, 1, 0, MAX), -13, 1, MAX);
        Check.due("the last to the last", x.copy(0, 2, 1, 1, 1), 1);
        Check.sheetHas(x, 1, 0, "bb");
        Check.sheetHas(x, 0, 0, "rwb");
    }

    @Edge(promise = 35, says = "n items of a SHEET from i on come to another one (or the same) from j on, as if all were taken ahead: n.")
    static void copyOntoItself() {
        PaleFence x = new PaleFence();
        Check.fill(x, 0, 0, 0, 1, 2, 3, 0);
        Check.due("upwards", x.copy(0, 0, 0, 1, 4), 4);
        Check.sheetHas(x, 0, 0, "rrwbg");
        Check.due("downwards", x.copy(0, 1, 0, 0, 4), 4);
        Check.sheetHas(x, 0, 0, "rwbgg");
        Check.due("where they are", x.copy(0, 0, 0, 0, 5), 5);
        Check.sheetHas(x, 0, 0, "rwbgg");
    }

    @Edge(promise = 35, says = "n items of a SHEET from i on come to another one (or the same) from j on, as if all were taken ahead: n.")
    static void copyOf48() {
        PaleFence x = new PaleFence();
        x.sheet(0, 2, 48);
        x.sheet(1, 2, 48);
        x.item(0, 2, 0, 1);
        x.item(0, 2, 47, 3);
        Check.due("48", x.copy(0, 0, 1, 0, 48), 48);
        Check.sheetHas(x, 1, 2, "w" + "r".repeat(46) + "g");
        Check.due("49", x.copy(0, 0, 1, 0, 49), -13);
    }
}
