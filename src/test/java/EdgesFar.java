/** Boundary cases of promises 11 to 21. */
final class EdgesFar {
    private static final int MIN = Integer.MIN_VALUE, MAX = Integer.MAX_VALUE;

    // 11 fault

    private static void faultIs(PaleFence x, int pales, int stretch) {
        String row = Check.shown(x);
        Check.due(row + ": fault(0)", x.fault(0), pales);
        Check.due(row + ": fault(1)", x.fault(1), stretch);
    }

    @Edge(promise = 11, says = "FAULT (0), its LENGTH (1). BAD;")
    static void faultOfNothing() {
        Check.each("fault", Check.fenced("rr")::fault, -1, MIN, -1, 2, MAX);
        Check.each("fault of a lawful one", Check.fenced("rw")::fault, -1, -1, 2);
    }

    @Edge(promise = 11, says = "NONE: it is LAWFUL.")
    static void faultOfALawfulFence() {
        faultIs(new PaleFence(), -4, -4);
        faultIs(Check.fenced("r"), -4, -4);
        faultIs(Check.fenced(Check.squareFree(48)), -4, -4);
        faultIs(Check.fenced(2, 1, 2, "rrwrr"), -4, -4);
    }

    @Edge(promise = 11, part = "Terms", says = "FAULT: the fewest PALES from the first one on that are not LAWFUL as a row;")
    static void faultIsOfTheFewestPales() {
        faultIs(Check.fenced("rr"), 2, 1);
        faultIs(Check.fenced("rrwwbb"), 2, 1);
        faultIs(Check.fenced("rwrwbb"), 4, 2);
        faultIs(Check.fenced("rwbb".repeat(2)), 4, 1);
        String row = Check.squareFree(47);
        faultIs(Check.fenced(row + row.charAt(46)), 48, 1);
        faultIs(Check.fenced(row.substring(0, 46) + row.charAt(45) + row.charAt(45)), 47, 1);
    }

    @Edge(promise = 11, part = "Terms",
        says = "its LENGTH: of the STRETCHES that come so (twice, thrice) at the end of these the PALES of the shortest.")
    static void lengthIsOfTheShortest() {
        // wrw and rwwrw; gbgww, of as many pales of each colour, and w.
        faultIs(Check.fenced(2, 3, 3, "rwwrwrwwrw"), 10, 3);
        faultIs(Check.fenced(2, 3, 4, "rwwrwrwrwwrwrw"), 14, 5);
        faultIs(Check.fenced(4, 2, 2, "rwbwgrbgww"), 10, 1);
        faultIs(Check.fenced(2, 3, 9, "wrrwrwrwrwrwrrwrwrwrwr"), 22, 9);
        // A stretch that is not long does not come as the law tells.
        faultIs(Check.fenced(2, 3, 2, "rrrr"), 4, 2);
    }

    @Edge(promise = 11, part = "Terms", says = "(twice, thrice)")
    static void lengthOfWhatComesThriceIsOfOneStretch() {
        faultIs(Check.fenced(2, 1, 2, "wrrr"), 4, 1);
        faultIs(Check.fenced(2, 1, 2, "rwrwrw"), 6, 2);
        String third = Check.squareFree(16);
        faultIs(Check.fenced(3, 1, 2, third + third + third), 48, 16);
        String half = Check.squareFree(24);
        faultIs(Check.fenced(half + half), 48, 24);
    }

    // 12 may

    private static final String MAY = "MAY of a row: COLOURS by which, painted behind it, it is LAWFUL (none, if it is not so itself).";

    @Edge(promise = 12, part = "Terms", says = MAY)
    static void mayOfARowNotLawful() {
        Check.due("rr", Check.fenced("rr").may(), 0);
        Check.due("not lawful at its beginning alone", Check.fenced(4, 0, 2, "rrwbrg").may(), 0);
        Check.due("rrwb", Check.fenced("rrwb").may(), 0);
        Check.due("48 like ones", Check.fenced("r".repeat(48)).may(), 0);
    }

    @Edge(promise = 12, part = "Terms", says = MAY)
    static void mayOfARowOfWhichNoneMayCome() {
        Check.due("rwr of two", Check.fenced(2, 0, 2, "rwr").may(), 0);
        Check.due("rwrbrwr", Check.fenced("rwrbrwr").may(), 0);
        Check.due("rwrbrwr of four", Check.fenced(4, 0, 2, "rwrbrwr").may(), 8);
    }

    @Edge(promise = 12, says = "MAY of THE FENCE.")
    static void mayOfNoPale() {
        for (int c = 2; c <= 4; c++) {
            for (int law = 0; law < 4; law++) {
                Check.due(c + " colours", Check.fenced(c, law, 1, "").may(), (1 << c) - 1);
            }
        }
    }

    @Edge(promise = 12, says = "MAY of THE FENCE.")
    static void mayOf48Pales() {
        Check.due("r alone may", Check.fenced(Check.squareFree(48)).may(), 1);
        Check.due("w alone may", Check.fenced(Check.STUCK_AT_49).may(), 2);
        Check.due("none may", Check.fenced(Check.STUCK_AT_48).may(), 0);
    }

    // 13 kind

    private static void kindsAre(PaleFence x, int... kinds) {
        String row = Check.shown(x);
        for (int i = 0; i < kinds.length; i++) {
            Check.due(row + ": kind(" + i + ")", x.kind(i), kinds[i]);
        }
    }

    @Edge(promise = 13, says = "KIND of a PALE. BAD.")
    static void kindOfNoPale() {
        Check.each("kind", Check.fenced("rwb")::kind, -1, MIN, -1, 3, 47, MAX);
        Check.each("kind of none", new PaleFence()::kind, -1, -1, 0);
        Check.due("kind(48)", Check.fenced(Check.squareFree(48)).kind(48), -1);
    }

    @Edge(promise = 13, part = "Terms", says = "KIND of a PALE, by the row ahead of it and itself:")
    static void kindIsNotByWhatStandsBehind() {
        kindsAre(Check.fenced("rwbrr"), 0, 0, 0, 0, 2);
        kindsAre(Check.fenced("rwbrrb"), 0, 0, 0, 0, 2, 2);
        kindsAre(Check.fenced(2, 0, 2, "rw"), 0, 1);
        kindsAre(Check.fenced(2, 0, 2, "rwr"), 0, 1, 3);
    }

    @Edge(promise = 13, part = "Terms", says = "0 FREE: more than one COLOUR MAY have come there;")
    static void kindFree() {
        kindsAre(Check.fenced("r"), 0);
        kindsAre(Check.fenced(2, 0, 2, "r"), 0);
        // Two of three may come behind r; by two of two behind r, if a stretch is long from two on.
        kindsAre(Check.fenced("rw"), 0, 0);
        kindsAre(Check.fenced(2, 3, 2, "rr"), 0, 0);
    }

    @Edge(promise = 13, part = "Terms", says = "1 FORCED: one alone;")
    static void kindForced() {
        kindsAre(Check.fenced(2, 0, 2, "rw"), 0, 1);
        kindsAre(Check.fenced("rwrb"), 0, 0, 0, 1);
        kindsAre(Check.fenced(2, 1, 2, "rrw"), 0, 0, 1);
        kindsAre(Check.fenced(4, 0, 2, "rwrbrwrg"), 0, 0, 0, 0, 0, 0, 0, 1);
    }

    @Edge(promise = 13, part = "Terms", says = "2 DOUBLED: it makes the row not LAWFUL (or it is not so ahead);")
    static void kindDoubled() {
        kindsAre(Check.fenced("rr"), 0, 2);
        kindsAre(Check.fenced("rrwbr"), 0, 2, 2, 2, 2);
        kindsAre(Check.fenced(2, 0, 2, "rwrw"), 0, 1, 3, 2);
        PaleFence x = Check.fenced(Check.squareFree(47) + Check.squareFree(47).charAt(46));
        Check.due("kind(47)", x.kind(47), 2);
        Check.holds("kind(46)", x.kind(46) < 2);
    }

    @Edge(promise = 13, part = "Terms", says = "3 LAST: as 0 or 1, but none MAY come behind it.")
    static void kindLast() {
        Check.due("r or b may have come", Check.fenced("rwrbrw").may(), 5);
        kindsAre(Check.fenced("rwrbrwr"), 0, 0, 0, 1, 0, 1, 3);
        Check.due("r alone may have come", Check.fenced(2, 0, 2, "rw").may(), 1);
        kindsAre(Check.fenced(2, 0, 2, "rwr"), 0, 1, 3);
    }

    @Edge(promise = 13, part = "Terms", says = "3 LAST: as 0 or 1, but none MAY come behind it.")
    static void kindLastOf48() {
        Check.due("none may come behind 48", Check.fenced(Check.STUCK_AT_48).kind(47), 3);
        Check.due("r may come behind 48", Check.fenced(Check.squareFree(48)).kind(47), 1);
        Check.due("where it is not the last", Check.fenced("rwrbrwr").kind(5), 1);
    }

    // 14 far, 15 go

    @Edge(promise = 14, says = "FAR in n (0 .. 16). BAD.")
    static void farInFewerOrMore() {
        Check.each("far", new PaleFence()::far, -1, MIN, -1, 17, MAX);
        Check.each("far, not lawful", Check.fenced("rr")::far, -1, -1, 17);
    }

    @Edge(promise = 14, says = "FAR in n (0 .. 16).")
    static void farInNoneAndIn16() {
        PaleFence x = Check.fenced("rw");
        Check.due("far(0)", x.far(0), 0);
        Check.due("far(1)", x.far(1), 1);
        Check.due("far(16)", x.far(16), 16);
        Check.due("far(0) of no pale", new PaleFence().far(0), 0);
    }

    private static final String FAR = "FAR in n: how many PALES can be painted behind THE FENCE at most, n being enough "
        + "(more than 48 together, too; 0, if it is not LAWFUL).";

    @Edge(promise = 14, part = "Terms", says = FAR)
    static void farAtMost() {
        PaleFence x = Check.fenced(2, 0, 2, "");
        int[] far = {0, 1, 2, 3, 3, 3};
        for (int n = 0; n < far.length; n++) {
            Check.due("two colours: far(" + n + ")", x.far(n), far[n]);
        }
        Check.due("far(16)", x.far(16), 3);
        Check.due("stuck", Check.fenced("rwrbrwr").far(16), 0);
        Check.due("not by the first colour", Check.fenced("rwrbrw").far(2), 2);
        Check.due("any order: rwrbrwr is the longest", Check.fenced(3, 2, 2, "").far(16), 7);
    }

    @Edge(promise = 14, part = "Terms", says = FAR)
    static void farBehind48() {
        Check.due("64 together", Check.fenced(Check.squareFree(48)).far(16), 16);
        Check.due("49 together", Check.fenced(Check.STUCK_AT_49).far(16), 1);
        Check.due("48, stuck", Check.fenced(Check.STUCK_AT_48).far(16), 0);
    }

    @Edge(promise = 14, part = "Terms", says = FAR)
    static void farBehindWhatIsNotLawful() {
        Check.each("rr: far", Check.fenced("rr")::far, 0, 0, 1, 16);
        Check.each("rrwbwr: far", Check.fenced("rrwbwr")::far, 0, 0, 1, 16);
    }

    private static void goes(PaleFence x, int n, String row) {
        for (int i = 0; i < row.length(); i++) {
            Check.due("go(" + n + ", " + i + ")", x.go(n, i), Check.colour(row, i));
        }
        Check.due("go(" + n + ", " + row.length() + ")", x.go(n, row.length()), -4);
    }

    @Edge(promise = 15, says = "GO, as many as FAR in n (1 .. 16): the i-th PALE (0 ..). BAD;")
    static void goInNoneOrAheadOfTheFirst() {
        PaleFence x = new PaleFence();
        Check.each("go(.., 0)", n -> x.go(n, 0), -1, MIN, -1, 0, 17, MAX);
        Check.each("go(16, ..)", i -> x.go(16, i), -1, MIN, -1);
        Check.due("go(1, 0)", x.go(1, 0), 0);
        Check.due("go(16, 0)", x.go(16, 0), 0);
    }

    @Edge(promise = 15, says = "NONE: there is no i-th.")
    static void goBehindTheLast() {
        PaleFence x = new PaleFence();
        Check.due("go(1, 1)", x.go(1, 1), -4);
        Check.due("go(16, 15)", x.go(16, 15), 0);
        Check.each("go(16, ..)", i -> x.go(16, i), -4, 16, 17, 48, MAX);
        PaleFence y = Check.fenced(2, 0, 2, "");
        Check.due("go(16, 2)", y.go(16, 2), 0);
        Check.due("go(16, 3), rwr being the longest", y.go(16, 3), -4);
        Check.due("stuck", Check.fenced("rwrbrwr").go(16, 0), -4);
        Check.due("not lawful", Check.fenced("rr").go(16, 0), -4);
    }

    @Edge(promise = 15, part = "Terms", says = "GO: of rows of as many PALES that can be painted behind it the first.")
    static void goIsTheFirstOfTheLongest() {
        goes(new PaleFence(), 3, "rwr");
        goes(Check.fenced("rwrbrw"), 1, "r");
        // Behind r none may come.
        goes(Check.fenced("rwrbrw"), 2, "br");
        goes(Check.fenced(2, 0, 2, "rw"), 2, "r");
        goes(Check.fenced(3, 2, 2, "b"), 16, "rwrbrw");
    }

    @Edge(promise = 15, part = "Terms", says = "GO: of rows of as many PALES that can be painted behind it the first.")
    static void goBehind48() {
        goes(Check.fenced(Check.squareFree(48)), 16, "rwrbwrwbrwrbrwbr");
        goes(Check.fenced(Check.STUCK_AT_49), 16, "w");
        goes(Check.fenced(Check.STUCK_AT_48), 16, "");
    }

    // 16 less

    @Edge(promise = 16, says = "SCRAPE for n (1 .. 12). BAD;")
    static void lessForNoneOrMoreThan12() {
        Check.each("less", new PaleFence()::less, -1, MIN, -1, 0, 13, MAX);
        Check.each("less", new PaleFence()::less, 0, 1, 12);
    }

    @Edge(promise = 16, says = "NONE: none helps.")
    static void lessWhereNoneHelps() {
        PaleFence x = Check.fenced(2, 0, 2, "");
        Check.due("rwr is the longest: less(3)", x.less(3), 0);
        Check.each("less", x::less, -4, 4, 12);
        Check.each("rwr: less", Check.fenced(2, 0, 2, "rwr")::less, -4, 1, 12);
        Check.due("not more than there are: rr", Check.fenced(2, 0, 2, "rr").less(2), -4);
        Check.due("all taken off: rr, for one", Check.fenced(2, 0, 2, "rr").less(1), 1);
    }

    private static final String SCRAPE = "SCRAPE for n: the fewest PALES (0 .. 12) to take off the end so that behind what is left "
        + "as many as that and n more can be painted (more than 48 together, too).";

    @Edge(promise = 16, part = "Terms", says = SCRAPE)
    static void lessIsNoneOff() {
        Check.due("rw", Check.fenced("rw").less(12), 0);
        Check.due("no pale", new PaleFence().less(12), 0);
    }

    @Edge(promise = 16, part = "Terms", says = SCRAPE)
    static void lessIsTwelveOffAtMost() {
        Check.due("12 off", Check.fenced("rwb" + "b".repeat(12)).less(1), 12);
        Check.due("12 off", Check.fenced("rwb" + "b".repeat(12)).less(12), 12);
        Check.due("13 would help", Check.fenced("rwb" + "b".repeat(13)).less(1), -4);
        Check.due("12 of 13 off", Check.fenced("r".repeat(13)).less(12), 12);
        Check.due("12 of 14 do not help", Check.fenced("r".repeat(14)).less(1), -4);
    }

    @Edge(promise = 16, part = "Terms", says = SCRAPE)
    static void lessAsksForWhatIsOffAndMore() {
        // rrrwrrr by the law of 2: the longest row of two colours has 18 pales.
        int[] off = {0, 0, 0, 0, 3, 3, 3, 3, 5, 6};
        PaleFence x = Check.fenced(2, 3, 2, "rrrwrrr");
        for (int n = 5; n <= 10; n++) {
            Check.due("less(" + n + ")", x.less(n), off[n - 1]);
        }
        Check.due("rwrbrwr: r off, and two for one", Check.fenced("rwrbrwr").less(1), 1);
    }

    @Edge(promise = 16, part = "Terms", says = SCRAPE)
    static void lessOfMoreThan48Together() {
        Check.due("60 together", Check.fenced(Check.squareFree(48)).less(12), 0);
        String row = Check.squareFree(47);
        Check.due("60 together, one off", Check.fenced(row + row.charAt(46)).less(12), 1);
        Check.due("none may come behind 48", Check.fenced(Check.STUCK_AT_48).less(1), 1);
        Check.due("one may, and no more", Check.fenced(Check.STUCK_AT_49).less(1), 0);
        Check.due("one may, and no more", Check.fenced(Check.STUCK_AT_49).less(2), 1);
    }

    // 17 many, 18 rings, 19 ring

    @Edge(promise = 17, says = "MANY of n (0 .. 9). BAD.")
    static void manyOfFewerOrMore() {
        Check.each("many", new PaleFence()::many, -1, MIN, -1, 10, MAX);
    }

    @Edge(promise = 17, part = "Terms", says = "MANY: how many LAWFUL rows of n PALES there are;")
    static void manyOfNoPaleAndOfNine() {
        for (int c = 2; c <= 4; c++) {
            for (int law = 0; law < 4; law++) {
                Check.due("many(0)", Check.fenced(c, law, 1, "rr").many(0), 1);
                Check.due("many(1)", Check.fenced(c, law, 1, "rr").many(1), c);
            }
        }
        Check.due("many(9)", new PaleFence().many(9), 108);
        Check.due("many(9), all rows", Check.fenced(4, 3, 5, "").many(9), 262144);
        Check.due("many(8), not all rows", Check.fenced(4, 3, 4, "").many(8), 65536 - 256);
    }

    @Edge(promise = 17, part = "Terms", says = "MANY: how many LAWFUL rows of n PALES there are;")
    static void manyWhereThereAreNone() {
        PaleFence x = Check.fenced(2, 0, 2, "");
        Check.due("many(3)", x.many(3), 2);
        Check.each("many", x::many, 0, 4, 9);
        PaleFence y = Check.fenced(3, 2, 2, "");
        Check.due("any order: many(7)", y.many(7), 18);
        Check.each("any order: many", y::many, 0, 8, 9);
    }

    @Edge(promise = 18, says = "RINGS of n (1 .. 8). BAD.")
    static void ringsOfFewerOrMore() {
        Check.each("rings", new PaleFence()::rings, -1, MIN, -1, 0, 9, MAX);
    }

    @Edge(promise = 18, part = "Terms", says = "RINGS: how many rows of n PALES there are that are RINGS;")
    static void ringsOfOnePaleAndOfEight() {
        for (int law = 0; law < 4; law++) {
            Check.due("rings(1)", Check.fenced(4, law, 1, "").rings(1), 4);
        }
        Check.due("rings(8)", new PaleFence().rings(8), 24);
        Check.due("rings(8), all rows", Check.fenced(4, 3, 9, "").rings(8), 65536);
        Check.due("rings(8) of two colours", Check.fenced(2, 3, 4, "").rings(8), 240);
    }

    @Edge(promise = 18, part = "Terms", says = "RINGS: how many rows of n PALES there are that are RINGS;")
    static void ringsWhereThereAreNone() {
        Check.each("three colours: rings", new PaleFence()::rings, 0, 5, 7);
        Check.each("two colours: rings", Check.fenced(2, 0, 2, "")::rings, 0, 3, 4, 8);
        Check.each("any order: rings", Check.fenced(3, 2, 2, "")::rings, 0, 5, 6, 7, 8);
    }

    @Edge(promise = 19, says = "FIRST RING of n (1 .. 8): its i-th PALE (0 .. n - 1). BAD;")
    static void ringOfFewerOrMore() {
        PaleFence x = new PaleFence();
        Check.each("ring(.., 0)", n -> x.ring(n, 0), -1, MIN, -1, 0, 9, MAX);
        Check.each("ring(8, ..)", i -> x.ring(8, i), -1, MIN, -1, 8, 9, MAX);
        Check.each("ring(1, ..)", i -> x.ring(1, i), -1, -1, 1);
        Check.each("there is none: ring(5, ..)", i -> x.ring(5, i), -1, -1, 5);
    }

    private static void ringIs(PaleFence x, int n, String row) {
        for (int i = 0; i < n; i++) {
            Check.due("ring(" + n + ", " + i + ")", x.ring(n, i), row.isEmpty() ? -4 : Check.colour(row, i));
        }
    }

    @Edge(promise = 19, part = "Terms", says = "FIRST RING: the first of these rows.")
    static void ringOfOnePaleAndOfEight() {
        ringIs(new PaleFence(), 1, "r");
        ringIs(new PaleFence(), 2, "rw");
        ringIs(new PaleFence(), 8, "rwrbwrwb");
        ringIs(Check.fenced(4, 0, 2, ""), 8, "rwrbrwrg");
        ringIs(Check.fenced(2, 1, 2, ""), 8, "rrwrrwrw");
        ringIs(Check.fenced(2, 3, 4, ""), 8, "rrrrrrrw");
        ringIs(Check.fenced(2, 3, 9, ""), 8, "rrrrrrrr");
    }

    @Edge(promise = 19, says = "NONE: there is none.")
    static void ringWhereThereIsNone() {
        ringIs(new PaleFence(), 5, "");
        ringIs(new PaleFence(), 7, "");
        ringIs(Check.fenced(2, 0, 2, ""), 3, "");
        ringIs(Check.fenced(2, 0, 2, ""), 8, "");
        ringIs(Check.fenced(3, 2, 2, ""), 5, "");
        ringIs(Check.fenced(2, 3, 2, ""), 8, "");
    }

    @Edge(promise = {17, 18, 19, 20}, part = "Terms", says = "MANY: how many LAWFUL rows of n PALES there are; "
        + "RINGS: how many rows of n PALES there are that are RINGS; FIRST RING: the first of these rows. CHEAP: of LAWFUL rows of n PALES")
    static void rowsAreNotByTheFence() {
        for (String row : new String[] {"", "rr", Check.squareFree(48), Check.STUCK_AT_48, "r".repeat(48)}) {
            PaleFence x = Check.fenced(row);
            Check.due("many(9)", x.many(9), 108);
            Check.reads(x, row);
            Check.due("rings(8)", x.rings(8), 24);
            Check.reads(x, row);
            Check.due("ring(8, 7)", x.ring(8, 7), 2);
            Check.reads(x, row);
            Check.due("cheap(8, -1)", x.cheap(8, -1), 8);
            Check.reads(x, row);
            Check.due("cheap(8, 7)", x.cheap(8, 7), 0);
        }
    }

    // 20 cheap

    private static void cheapIs(PaleFence x, int n, int prices, String row) {
        Check.due("cheap(" + n + ", -1)", x.cheap(n, -1), prices);
        for (int i = 0; i < n; i++) {
            Check.due("cheap(" + n + ", " + i + ")", x.cheap(n, i), row.isEmpty() ? -4 : Check.colour(row, i));
        }
    }

    private static PaleFence priced(PaleFence x, int... prices) {
        for (int c = 0; c < prices.length; c++) {
            x.price(c, prices[c]);
        }
        return x;
    }

    @Edge(promise = 20, says = "CHEAP of n (1 .. 8): PRICES (-1), its i-th PALE (0 .. n - 1). BAD;")
    static void cheapOfFewerOrMore() {
        PaleFence x = new PaleFence();
        Check.each("cheap(.., -1)", n -> x.cheap(n, -1), -1, MIN, -1, 0, 9, MAX);
        Check.each("cheap(.., 0)", n -> x.cheap(n, 0), -1, MIN, -1, 0, 9, MAX);
        Check.each("cheap(8, ..)", i -> x.cheap(8, i), -1, MIN, -2, 8, 9, MAX);
        Check.each("cheap(1, ..)", i -> x.cheap(1, i), -1, -2, 1);
        PaleFence y = Check.fenced(2, 0, 2, "");
        Check.each("there is none: cheap(4, ..)", i -> y.cheap(4, i), -1, -2, 4);
    }

    @Edge(promise = 20, says = "PRICES (-1), its i-th PALE (0 .. n - 1).")
    static void cheapOfOnePaleAndOfEight() {
        cheapIs(new PaleFence(), 1, 1, "r");
        cheapIs(priced(new PaleFence(), 5, 4, 3), 1, 3, "b");
        cheapIs(new PaleFence(), 8, 8, "rwrbrwbr");
        cheapIs(priced(Check.fenced(4, 3, 9, ""), 99, 99, 99, 99), 8, 792, "rrrrrrrr");
        cheapIs(priced(Check.fenced(4, 3, 9, ""), 99, 99, 99, 0), 8, 0, "gggggggg");
    }

    @Edge(promise = 20, says = "NONE: there is none.")
    static void cheapWhereThereIsNone() {
        cheapIs(Check.fenced(2, 0, 2, ""), 3, 3, "rwr");
        cheapIs(Check.fenced(2, 0, 2, ""), 4, -4, "");
        cheapIs(priced(Check.fenced(2, 0, 2, ""), 0, 0), 8, -4, "");
        cheapIs(priced(Check.fenced(2, 0, 2, ""), 99, 99), 8, -4, "");
        cheapIs(Check.fenced(3, 2, 2, ""), 8, -4, "");
    }

    @Edge(promise = 20, part = "Terms", says = "CHEAP: of LAWFUL rows of n PALES that of the least PRICES together, of like ones the first.")
    static void cheapIsTheFirstOfLikeOnes() {
        cheapIs(priced(new PaleFence(), 2, 2, 2), 3, 6, "rwr");
        cheapIs(priced(new PaleFence(), 1, 0, 0), 2, 0, "wb");
        cheapIs(priced(new PaleFence(), 0, 10, 9), 3, 9, "rbr");
        cheapIs(priced(new PaleFence(), 5, 1, 3), 4, 10, "rwbw");
    }

    // 21 wins

    @Edge(promise = 21, says = "WINS in n (0 .. 8). BAD;")
    static void winsInFewerOrMore() {
        Check.each("wins", new PaleFence()::wins, -1, MIN, -1, 9, MAX);
        Check.each("wins, not lawful", Check.fenced("rr")::wins, -1, -1, 9);
    }

    @Edge(promise = 21, says = "NOT: THE FENCE is not LAWFUL.")
    static void winsOfAFenceNotLawful() {
        Check.each("rr: wins", Check.fenced("rr")::wins, -2, 0, 1, 8);
        Check.each("rrwb: wins", Check.fenced("rrwb")::wins, -2, 0, 1, 8);
        String row = Check.squareFree(47);
        Check.each("48: wins", Check.fenced(row + row.charAt(46))::wins, -2, 0, 8);
    }

    private static void winsAre(PaleFence x, int... due) {
        for (int n = 0; n < due.length; n++) {
            Check.due(Check.shown(x) + ": wins(" + n + ")", x.wins(n), due[n]);
        }
    }

    @Edge(promise = 21, part = "Terms",
        says = "WINS in n: 1: who begins can see to it that the other one is stuck before n and 1 PALES are painted;")
    static void whoBeginsWinsInJustSoMany() {
        winsAre(Check.fenced(2, 0, 2, "rw"), 2, 1, 1, 1, 1, 1, 1, 1, 1);
        winsAre(Check.fenced(2, 0, 2, ""), 2, 2, 2, 1, 1, 1, 1, 1, 1);
        winsAre(Check.fenced("rwrbrw"), 2, 1, 1, 1, 1, 1, 1, 1, 1);
        Check.due("no pale: wins(6)", new PaleFence().wins(6), 2);
        Check.due("no pale: wins(7)", new PaleFence().wins(7), 1);
        Check.due("no pale: wins(8)", new PaleFence().wins(8), 1);
    }

    @Edge(promise = 21, part = "Terms", says = "0: the other one can see to it that who begins is; 2: neither.")
    static void theOtherOneWinsOrNeither() {
        winsAre(Check.fenced(2, 0, 2, "rwr"), 0, 0, 0, 0, 0, 0, 0, 0, 0);
        winsAre(Check.fenced(2, 0, 2, "r"), 2, 2, 0, 0, 0, 0, 0, 0, 0);
        winsAre(Check.fenced("rwr"), 2, 2, 2, 2, 0, 0, 0, 0, 0);
        winsAre(Check.fenced(4, 3, 9, ""), 2, 2, 2, 2, 2, 2, 2, 2, 2);
    }

    @Edge(promise = 21, part = "Terms",
        says = "A GAME from THE FENCE on: two paint by turns, one PALE each, so that it is LAWFUL (more than 48 together, too); who can't pays.")
    static void aGameBehind48() {
        winsAre(Check.fenced(Check.STUCK_AT_48), 0, 0, 0, 0, 0, 0, 0, 0, 0);
        winsAre(Check.fenced(Check.STUCK_AT_49), 2, 1, 1, 1, 1, 1, 1, 1, 1);
        Check.due("two may come behind 48: wins(1)", Check.fenced(Check.squareFree(48)).wins(1), 2);
    }
}
