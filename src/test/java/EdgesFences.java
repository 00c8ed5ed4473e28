/** Boundary cases of promises 1 to 10. */
final class EdgesFences {
    private static final int MIN = Integer.MIN_VALUE, MAX = Integer.MAX_VALUE;

    @Edge(promise = 1, says = "No pale.")
    static void aNewObjectHasNoPale() {
        PaleFence x = new PaleFence();
        for (int what = 0; what < 6; what++) {
            Check.due("count(" + what + ")", x.count(what), 0);
        }
        Check.due("pale(0)", x.pale(0), -1);
        Check.due("scrape(1)", x.scrape(1), -2);
        Check.due("fence() of an empty tape", x.fence(), 0);
    }

    // 2 colours, 3 price, 4 rule

    @Edge(promise = 2, says = "C becomes v: what it was. BAD;")
    static void coloursBelowTwoOrAboveFour() {
        PaleFence x = Check.fenced("rw");
        Check.each("colours", x::colours, -1, MIN, 0, 1, 5, MAX);
        Check.due("colours(2)", x.colours(2), 3);
        Check.due("paint(2) of two", x.paint(2), -1);
        Check.due("colours(4)", x.colours(4), 2);
        Check.due("paint(3) of four", x.paint(3), 3);
    }

    @Edge(promise = 2, says = "NOT: a PALE has another COLOUR.")
    static void coloursAPaleHasTheOneLeftOut() {
        Check.due("colours(2) with a b", Check.fenced("rwb").colours(2), -2);
        Check.due("colours(2), b ahead", Check.fenced("brw").colours(2), -2);
        Check.due("colours(2), b within", Check.fenced("rbw").colours(2), -2);
        Check.due("colours(3) with a g", Check.fenced(4, 0, 2, "rg").colours(3), -2);
        Check.due("colours(2) with a g", Check.fenced(4, 0, 2, "rg").colours(2), -2);
        Check.due("b the last of 48", Check.fenced("rw".repeat(23) + "rb").colours(2), -2);
    }

    @Edge(promise = 2, says = "NOT: a PALE has another COLOUR.")
    static void coloursNoPaleHasTheOneLeftOut() {
        Check.due("colours(2) with r, w", Check.fenced("rw").colours(2), 3);
        Check.due("colours(3) with a b", Check.fenced(4, 0, 2, "rwb").colours(3), 4);
        Check.due("colours(2) of no pale", new PaleFence().colours(2), 3);
        PaleFence x = Check.fenced("rwb");
        x.scrape(1);
        Check.due("colours(2), the b is off", x.colours(2), 3);
    }

    @Edge(promise = 3, says = "PRICE of a COLOUR (0 .. 3): what it was.")
    static void priceOfAColourThatThereIsNotNow() {
        PaleFence x = Check.fenced(2, 0, 2, "");
        Check.due("price(3, 7) of two colours", x.price(3, 7), 1);
        Check.due("price(3, 8)", x.price(3, 8), 7);
        Check.due("price(2, 8)", x.price(2, 8), 1);
        Check.due("price(0, 8)", x.price(0, 8), 1);
    }

    @Edge(promise = 3, says = "(0 .. 3): what it was. BAD.")
    static void priceOfNoColourOrOutOfBounds() {
        PaleFence x = new PaleFence();
        Check.each("price of colour", c -> x.price(c, 5), -1, MIN, -1, 4, MAX);
        Check.each("price(0, ..)", v -> x.price(0, v), -1, MIN, -1, 100, MAX);
    }

    @Edge(promise = 4, says = "THE LAW (0), LEAST (1) becomes v: what it was. BAD.")
    static void ruleOfNothing() {
        PaleFence x = new PaleFence();
        Check.each("rule(.., 1)", what -> x.rule(what, 1), -1, MIN, -1, 2, MAX);
    }

    @Edge(promise = 4, says = "THE LAW (0), LEAST (1) becomes v: what it was. BAD.")
    static void lawsAreNoughtToThree() {
        PaleFence x = new PaleFence();
        Check.each("rule(0, ..)", v -> x.rule(0, v), -1, MIN, -1, 4, MAX);
        Check.due("rule(0, 3)", x.rule(0, 3), 0);
        Check.due("rule(0, 0)", x.rule(0, 0), 3);
    }

    @Edge(promise = 4, says = "THE LAW (0), LEAST (1) becomes v: what it was. BAD.")
    static void leastIsOneToNineByAnyLaw() {
        PaleFence x = new PaleFence();
        for (int law = 0; law < 4; law++) {
            x.rule(0, law);
            Check.each("rule(1, ..)", v -> x.rule(1, v), -1, 0, 10);
            x.rule(1, 9);
            Check.due("rule(1, 1), it was 9", x.rule(1, 1), 9);
            Check.due("rule(0, law)", x.rule(0, law), law);
        }
    }

    // 5 paint, 6 scrape, 7 pale

    @Edge(promise = 5, says = "how many there are. BAD;")
    static void paintOfNoColour() {
        PaleFence x = Check.fenced("rw");
        Check.each("paint", x::paint, -1, MIN, -1, 3, 4, MAX);
        Check.due("paint(2)", x.paint(2), 3);
        Check.each("paint", Check.fenced(2, 0, 2, "r")::paint, -1, 2, 3);
        Check.due("paint(3) of four", Check.fenced(4, 0, 2, "r").paint(3), 2);
    }

    @Edge(promise = 5, says = "NOT: it would not be LAWFUL;")
    static void paintThatWouldNotBeLawful() {
        Check.due("r", Check.fenced("r").paint(0), -2);
        Check.due("rwr", Check.fenced("rwr").paint(1), -2);
        Check.due("rwr", Check.fenced("rwr").paint(2), 4);
        Check.due("thrice", Check.fenced(2, 1, 2, "rr").paint(0), -2);
        Check.due("any order", Check.fenced(3, 2, 2, "rwbrb").paint(1), -2);
        Check.due("long", Check.fenced(3, 3, 3, "rwbrw").paint(2), -2);
        Check.due("not so long", Check.fenced(3, 3, 4, "rwbrw").paint(2), 6);
    }

    @Edge(promise = 5, says = "NOT: it would not be LAWFUL;")
    static void paintBehindWhatIsNotLawful() {
        PaleFence x = Check.fenced("rrw");
        Check.each("paint", x::paint, -2, 0, 1, 2);
        Check.stands(x, "rrw");
    }

    @Edge(promise = 5, says = "FULL: 48.")
    static void paintThe48thAndThe49th() {
        String row = Check.squareFree(49);
        PaleFence x = Check.fenced(row.substring(0, 47));
        Check.due("the 48th", x.paint(Check.colour(row, 47)), 48);
        Check.due("the 49th", x.paint(Check.colour(row, 48)), -3);
        Check.stands(x, row.substring(0, 48));
    }

    @Edge(promise = 5, says = "BAD; NOT: it would not be LAWFUL; FULL: 48.")
    static void paintWhatIsNotLawfulBehind48() {
        PaleFence x = Check.fenced(Check.squareFree(48));
        Check.due("the last once more", x.paint(Check.colour(Check.squareFree(48), 47)), -2);
        Check.due("no colour", x.paint(3), -1);
        Check.each("behind a row of which none may come", Check.fenced(Check.STUCK_AT_48)::paint, -2, 0, 1, 2);
    }

    @Edge(promise = 6, says = "The last n PALES (1 .. 48) are taken off: how many there are. BAD;")
    static void scrapeNoneOrMoreThan48() {
        PaleFence x = Check.fenced(Check.squareFree(48));
        Check.each("scrape", x::scrape, -1, MIN, -1, 0, 49, MAX);
        Check.each("scrape of none", new PaleFence()::scrape, -1, 0, 49);
    }

    @Edge(promise = 6, says = "The last n PALES (1 .. 48) are taken off: how many there are.")
    static void scrapeOneAndAll() {
        String row = Check.squareFree(48);
        PaleFence x = Check.fenced(row);
        Check.due("scrape(1)", x.scrape(1), 47);
        Check.stands(x, row.substring(0, 47));
        Check.due("scrape(47)", x.scrape(47), 0);
        Check.stands(x, "");
        Check.due("scrape(48) of 48", Check.fenced(row).scrape(48), 0);
    }

    @Edge(promise = 6, says = "NOT: there are not so many.")
    static void scrapeMoreThanThereAre() {
        Check.each("scrape of none", new PaleFence()::scrape, -2, 1, 48);
        PaleFence x = Check.fenced("rwb");
        Check.each("scrape of three", x::scrape, -2, 4, 48);
        Check.due("scrape(3) of three", x.scrape(3), 0);
        Check.due("scrape(48) of 47", Check.fenced(Check.squareFree(47)).scrape(48), -2);
    }

    @Edge(promise = 7, says = "COLOUR of a PALE. BAD.")
    static void paleAheadOfTheFirstOrBehindTheLast() {
        PaleFence x = Check.fenced("bwr");
        Check.each("pale", x::pale, -1, MIN, -1, 3, 47, MAX);
        Check.due("the first", x.pale(0), 2);
        Check.due("the last", x.pale(2), 0);
        Check.each("pale of none", new PaleFence()::pale, -1, -1, 0);
        x.scrape(1);
        Check.due("what was scraped off", x.pale(2), -1);
    }

    @Edge(promise = 7, says = "COLOUR of a PALE. BAD.")
    static void paleOf48() {
        PaleFence x = Check.fenced("r".repeat(47) + "b");
        Check.due("pale(47)", x.pale(47), 2);
        Check.due("pale(48)", x.pale(48), -1);
    }

    // 8 type

    @Edge(promise = 8, says = "The n lowest bytes (1 .. 8) of w, of these the highest first, come behind THE TAPE: how many it has.")
    static void typeOneByteAndEight() {
        PaleFence x = new PaleFence();
        Check.due("type of 1", x.type('b', 1), 1);
        Check.due("type of 8", x.type(Check.word("rwbrwrbw"), 8), 9);
        Check.due("fence()", x.fence(), 9);
        Check.stands(x, "brwbrwrbw");
    }

    @Edge(promise = 8, says = "The n lowest bytes (1 .. 8) of w,")
    static void typeLooksAtNoOtherBytes() {
        PaleFence x = new PaleFence();
        Check.due("bytes that can't be, above", x.type(-1L << 16 | Check.word("wb"), 2), 2);
        Check.due("letters above", x.type(Check.word("rrrrrrrw"), 1), 3);
        Check.due("a zero above", x.type('r', 1), 4);
        x.fence();
        Check.stands(x, "wbwr");
    }

    @Edge(promise = 8, says = "BAD: n, a byte not 32 .. 126;")
    static void typeOfNoByteOrMoreThanEight() {
        PaleFence x = new PaleFence();
        Check.each("type(rwbrwrbw, ..)", n -> x.type(Check.word("rwbrwrbw"), n), -1, MIN, -1, 0, 9, MAX);
        Check.due("nothing has come", x.type('r', 1), 1);
    }

    @Edge(promise = 8, says = "BAD: n, a byte not 32 .. 126;")
    static void typeOfAByteThatCantBe() {
        PaleFence x = new PaleFence();
        Check.each("type of the byte", b -> x.type(b, 1), -1, 0, 10, 31, 127, 128, 255);
        for (int k = 0; k < 8; k++) {
            long row = Check.word("rwbrwrbw") & ~(255L << 8 * k);
            Check.due("31 as the byte " + k, x.type(row | 31L << 8 * k, 8), -1);
            Check.due("127 as the byte " + k, x.type(row | 127L << 8 * k, 8), -1);
            Check.due("255 as the byte " + k, x.type(row | 255L << 8 * k, 8), -1);
        }
        Check.due("nothing has come", x.fence(), 0);
    }

    @Edge(promise = 8, says = "BAD: n, a byte not 32 .. 126;")
    static void typeOfTheLeastAndTheGreatestByte() {
        PaleFence x = new PaleFence();
        Check.due("32", x.type(32, 1), 1);
        Check.due("126", x.type(126, 1), 2);
        Check.due("33", x.type(33, 1), 3);
        Check.due("fence(): 126 is no letter", x.fence(), -21);
    }

    @Edge(promise = 8, says = "FULL: 100.")
    static void typeUpTo100() {
        PaleFence x = new PaleFence();
        Check.types(x, " ".repeat(96));
        Check.due("5 behind 96", x.type(Check.word("rwbrw"), 5), -3);
        Check.due("4 behind 96", x.type(Check.word("rwbr"), 4), 100);
        Check.due("1 behind 100", x.type('w', 1), -3);
        Check.due("8 behind 100", x.type(Check.word("rwbrwrbw"), 8), -3);
        Check.due("fence()", x.fence(), 4);
        Check.stands(x, "rwbr");
    }

    @Edge(promise = 8, says = "FULL: 100.")
    static void typeEightUpTo100() {
        PaleFence x = new PaleFence();
        Check.types(x, " ".repeat(92));
        Check.due("8 behind 92", x.type(Check.word("rwbrwrbw"), 8), 100);
        x.fence();
        Check.types(x, " ".repeat(93));
        Check.due("8 behind 93", x.type(Check.word("rwbrwrbw"), 8), -3);
        Check.due("7 behind 93", x.type(Check.word("rwbrwrb"), 7), 100);
    }

    @Edge(promise = 8, says = "BAD: n, a byte not 32 .. 126; FULL: 100.")
    static void typeBadAheadOfFull() {
        PaleFence x = new PaleFence();
        Check.types(x, " ".repeat(100));
        Check.due("n", x.type('r', 0), -1);
        Check.due("n", x.type(Check.word("rwbrwrbw"), 9), -1);
        Check.due("a byte", x.type(127, 1), -1);
    }

    // 9 fence

    @Edge(promise = 9, says = "THE TAPE, which is empty then (whatever is answered), is a FENCE: how many PALES.")
    static void theTapeIsEmptyThen() {
        PaleFence x = new PaleFence();
        Check.due("a row", Check.reads(x, "rwb"), 3);
        Check.due("type(w)", x.type('w', 1), 1);
        Check.due("fence()", x.fence(), 1);
        Check.stands(x, "w");
    }

    @Edge(promise = 9, says = "THE TAPE, which is empty then (whatever is answered), is a FENCE: how many PALES.")
    static void theTapeIsEmptyBehindAFault() {
        PaleFence x = new PaleFence();
        Check.due("x", Check.reads(x, "wx"), -21);
        Check.due("type(b)", x.type('b', 1), 1);
        Check.due("fence()", x.fence(), 1);
        Check.stands(x, "b");
        Check.due("49 letters", Check.reads(x, "r".repeat(49)), -68);
        Check.due("type(b)", x.type('b', 1), 1);
    }

    @Edge(promise = 9, says = "A FAULT of a TEXT (THE FENCE stays).")
    static void theFenceStaysBehindAFault() {
        PaleFence x = Check.fenced("rwb");
        Check.due("a fault at once", Check.reads(x, "xww"), -20);
        Check.stands(x, "rwb");
        Check.due("a fault behind letters", Check.reads(x, "wrwrwrx"), -26);
        Check.stands(x, "rwb");
        Check.due("49 letters", Check.reads(x, "w".repeat(49)), -68);
        Check.stands(x, "rwb");
    }

    @Edge(promise = 9, part = "Terms", says = "letters r w b g (COLOURS 0 .. 3; those there are)")
    static void lettersOfTheColoursThereAre() {
        for (int c = 2; c <= 4; c++) {
            PaleFence x = Check.fenced(c, 0, 2, "");
            for (int i = 0; i < 4; i++) {
                Check.due("rwbg".charAt(i) + " of " + c, Check.reads(x, "rwbg".substring(i, i + 1)), i < c ? 1 : -20);
                Check.due("its colour", x.pale(0), Math.min(i, c - 1));
            }
            Check.due("R", Check.reads(x, "R"), -20);
            Check.due("0", Check.reads(x, "0"), -20);
        }
    }

    @Edge(promise = 9, part = "Terms", says = "48 at most, perhaps none:")
    static void aTextOf48LettersAnd49() {
        String row = Check.squareFree(49);
        PaleFence x = new PaleFence();
        Check.due("48 letters", Check.reads(x, row.substring(0, 48)), 48);
        Check.stands(x, row.substring(0, 48));
        Check.due("49 letters", Check.reads(x, row), -68);
        Check.due("a blank behind 48", Check.reads(x, row.substring(0, 48) + "  "), 48);
        Check.due("a blank, and the 49th", Check.reads(x, row.substring(0, 48) + " r"), -69);
        Check.due("what is no letter behind 48", Check.reads(x, row.substring(0, 48) + "?"), -68);
    }

    @Edge(promise = 9, part = "Terms", says = "48 at most, perhaps none:")
    static void aTextOfNoLetter() {
        PaleFence x = Check.fenced("rwb");
        Check.due("an empty tape", x.fence(), 0);
        Check.stands(x, "");
        Check.reads(x, "rwb");
        Check.due("blanks alone", Check.reads(x, " ".repeat(100)), 0);
        Check.stands(x, "");
    }

    @Edge(promise = 9, part = "Terms", says = "in place of THE FENCE, LAWFUL or not.")
    static void aTextThatIsNotLawful() {
        PaleFence x = Check.fenced("rwbrwrbw");
        Check.due("rrr", Check.reads(x, "rrr"), 3);
        Check.stands(x, "rrr");
        Check.due("48 like ones", Check.reads(x, "b".repeat(48)), 48);
        Check.due("fault(0)", x.fault(0), 2);
    }

    @Edge(promise = 9, part = "Terms", says = "FAULTS of a TEXT: -20 less the place of the first byte")
    static void theFirstByteThatCantStandThere() {
        PaleFence x = new PaleFence();
        Check.due("at the first place", Check.reads(x, "xyz"), -20);
        Check.due("at the second place", Check.reads(x, "rxyz"), -21);
        Check.due("the first of two", Check.reads(x, "rwbgr?"), -23);
        Check.due("at the last place of 100", Check.reads(x, " ".repeat(99) + "~"), -119);
    }

    @Edge(promise = 9, part = "Terms", says = "(blanks may stand anywhere; the place counts them, too) that can't stand there.")
    static void blanksMayStandAnywhere() {
        PaleFence x = new PaleFence();
        Check.due("ahead, between, behind", Check.reads(x, "  r w   b "), 3);
        Check.stands(x, "rwb");
        Check.due("the place counts them", Check.reads(x, "  r w x"), -26);
        Check.due("ahead of the fault alone", Check.reads(x, "   x"), -23);
        String wide = Check.squareFree(48).replace("", " ").substring(0, 96);
        Check.due("48 letters in 100 bytes", Check.reads(x, wide + "    "), 48);
        Check.due("the 49th as the last byte", Check.reads(x, wide + "   r"), -119);
    }

    // 10 count

    @Edge(promise = 10, says = "How many: 0 PALES, 1 PRICES of all together, 2 and COLOUR: PALES of it (2 .. 5). BAD.")
    static void countOfNothing() {
        PaleFence x = Check.fenced("rwb");
        Check.each("count", x::count, -1, MIN, -1, 6, MAX);
    }

    @Edge(promise = 10, says = "2 and COLOUR: PALES of it (2 .. 5).")
    static void countOfTheLeastAndTheGreatestColour() {
        PaleFence x = Check.fenced(4, 0, 2, "rgrwrg");
        Check.due("count(2)", x.count(2), 3);
        Check.due("count(5)", x.count(5), 2);
        Check.due("count(4)", x.count(4), 0);
        Check.due("count(5) of two colours", Check.fenced(2, 0, 2, "rw").count(5), 0);
    }

    @Edge(promise = 10, says = "0 PALES, 1 PRICES of all together,")
    static void countOfNoPaleAndOf48() {
        PaleFence x = new PaleFence();
        Check.due("PALES of none", x.count(0), 0);
        Check.due("PRICES of none", x.count(1), 0);
        x.price(2, 99);
        Check.reads(x, "b".repeat(48));
        Check.due("PALES", x.count(0), 48);
        Check.due("PRICES", x.count(1), 4752);
        Check.due("PALES of b", x.count(4), 48);
        x.price(2, 0);
        Check.due("PRICES of 0", x.count(1), 0);
    }
}
