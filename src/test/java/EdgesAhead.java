import java.util.function.Supplier;
import java.util.function.ToIntFunction;

/** Boundary cases that the document names ahead of its promises: of the whole, and of refusals. */
final class EdgesAhead {
    private static final int MIN = Integer.MIN_VALUE, MAX = Integer.MAX_VALUE;

    // what it is, the public face

    @Edge(promise = {5, 6, 7}, part = "What it is", says = "An object is used for at most 512 calls after it has been made")
    static void the512thCallIsAnswered() {
        PaleFence x = new PaleFence();
        for (int k = 1; k < 511; k += 2) {
            Check.due("call " + k + ", paint(0)", x.paint(0), 1);
            Check.due("call " + (k + 1) + ", scrape(1)", x.scrape(1), 0);
        }
        Check.due("call 511, paint(2)", x.paint(2), 1);
        Check.due("call 512, pale(0)", x.pale(0), 2);
    }

    @Edge(promise = {8, 9, 27, 32}, part = "What it is", says = "An object is used for at most 512 calls after it has been made")
    static void the512thCallThatKeepsIsAnswered() {
        PaleFence x = new PaleFence();
        for (int k = 1; k < 512; k += 4) {
            Check.due("call " + k + ", type(rwb)", x.type(Check.word("rwb"), 3), 3);
            Check.due("call " + (k + 1) + ", fence()", x.fence(), 3);
            Check.due("call " + (k + 2) + ", image()", x.image(), 1);
            Check.due("call " + (k + 3) + ", sheet", x.sheet(k & 3, k % 3, 48), 48);
        }
    }

    @Edge(promise = {11, 4}, part = "What it is", says = "in which nowhere a stretch may come twice, one behind the other, or by "
        + "other laws not thrice, not the same colours in any order twice, not twice if it is long")
    static void eachLawForbidsItsOwnRows() {
        String[] rows = {"r", "rr", "rrr", "rwrw", "rwrwrw", "rwbrbw", "rwbrwb"};
        int[][] faults = {{-4, -4, -4, -4}, {2, -4, 2, -4}, {2, 3, 2, -4}, {4, -4, 4, 4}, {4, 6, 4, 4}, {-4, -4, 6, -4}, {6, -4, 6, 6}};
        for (int k = 0; k < rows.length; k++) {
            PaleFence x = Check.fenced(rows[k]);
            for (int law = 0; law < 4; law++) {
                x.rule(0, law);
                Check.due(rows[k] + " by law " + law + ": fault(0)", x.fault(0), faults[k][law]);
            }
        }
    }

    @Edge(promise = 21, part = "What it is", says = "who is stuck pays")
    static void whoIsStuckPays() {
        Check.due("stuck at once", Check.fenced(2, 0, 2, "rwr").wins(8), 0);
        Check.due("the other one is stuck", Check.fenced(2, 0, 2, "rw").wins(8), 1);
    }

    @Edge(promise = {29, 30, 31, 33, 34, 35}, part = "What it is", says = "sheets that may be missing")
    static void aSheetMayBeMissing() {
        PaleFence x = Check.fenced("rwb");
        x.sheet(0, 0, 1);
        Check.due("storm", x.storm(1, 0, 0, 1, -1), -11);
        Check.due("build", x.build(1, 0, 0, 1), -11);
        Check.due("film", x.film(1, 0, 0), -11);
        Check.due("drop", x.drop(1), -11);
        Check.due("item", x.item(1, 0, 0, 1), -11);
        Check.due("copy from it", x.copy(1, 0, 0, 0, 1), -11);
        Check.due("copy to it", x.copy(0, 0, 1, 0, 1), -11);
        Check.stands(x, "rwb");
    }

    @Edge(promise = {2, 5, 8, 28, 30, 34, 32}, part = "The public face",
        says = "BAD = -1, NOT = -2, FULL = -3, NONE = -4, NULL = -11, CAST = -12, INDEX = -13, SIZE = -14")
    static void constants() {
        Check.due("BAD", PaleFence.BAD, -1);
        Check.due("NOT", PaleFence.NOT, -2);
        Check.due("FULL", PaleFence.FULL, -3);
        Check.due("NONE", PaleFence.NONE, -4);
        Check.due("NULL", PaleFence.NULL, -11);
        Check.due("CAST", PaleFence.CAST, -12);
        Check.due("INDEX", PaleFence.INDEX, -13);
        Check.due("SIZE", PaleFence.SIZE, -14);
    }

    // refusals

    @Edge(promise = {2, 26}, part = "Terms", says = "BAD -1 (a number is not as told, or names nothing)")
    static void badOfANumberThatIsNotAsTold() {
        Check.due("colours(1)", new PaleFence().colours(1), -1);
        Check.due("seed(-1)", new PaleFence().seed(-1), -1);
    }

    @Edge(promise = {7, 13, 33}, part = "Terms", says = "BAD -1 (a number is not as told, or names nothing)")
    static void badOfANumberThatNamesNothing() {
        PaleFence x = Check.fenced("r");
        Check.due("pale(1) of one", x.pale(1), -1);
        Check.due("kind(1) of one", x.kind(1), -1);
        Check.due("drop(4)", x.drop(4), -1);
    }

    @Edge(promise = {5, 6}, part = "Terms", says = "NOT -2 (as told)")
    static void notIs() {
        Check.due("paint(0)", Check.fenced("r").paint(0), -2);
        Check.due("scrape(1)", new PaleFence().scrape(1), -2);
    }

    @Edge(promise = {5, 8, 25}, part = "Terms", says = "FULL -3")
    static void fullIs() {
        PaleFence x = Check.fenced(Check.squareFree(48));
        Check.due("paint the 49th", x.paint(Check.colour(Check.squareFree(49), 48)), -3);
        Check.due("lots(1)", x.lots(1), -3);
        Check.types(x, " ".repeat(100));
        Check.due("type", x.type(' ', 1), -3);
    }

    @Edge(promise = {11, 19, 28}, part = "Terms", says = "NONE -4 (as told)")
    static void noneIs() {
        PaleFence x = new PaleFence();
        Check.due("fault(0)", x.fault(0), -4);
        Check.due("ring(5, 0)", x.ring(5, 0), -4);
        Check.due("restore()", x.restore(), -4);
    }

    @Edge(promise = {34, 35}, part = "Terms", says = "CAST -12 (of SHEETS another LANE)")
    static void castIs() {
        PaleFence x = new PaleFence();
        for (int lane = 0; lane < 3; lane++) {
            x.sheet(lane, lane, 2);
        }
        for (int s = 0; s < 3; s++) {
            for (int lane = 0; lane < 3; lane++) {
                Check.due("item of sheet " + s + " as lane " + lane, x.item(s, lane, 0, 1), s == lane ? 1 : -12);
                Check.due("copy " + s + " " + lane, x.copy(s, 0, lane, 0, 1), s == lane ? 1 : -12);
            }
        }
    }

    @Edge(promise = {33, 34, 32}, part = "Terms", says = "what the machine finds: NULL -11, INDEX -13, SIZE -14")
    static void whatTheMachineFinds() {
        PaleFence x = new PaleFence();
        Check.due("drop(0) of nothing", x.drop(0), -11);
        x.sheet(0, 0, 1);
        Check.due("item 1 of one", x.item(0, 0, 1, 0), -13);
        Check.due("a sheet of -1", x.sheet(0, 0, -1), -14);
    }

    @Edge(promise = {5, 2, 6, 8, 25, 21}, part = "Terms", says = "Refusals are answers, of several the first that a call names")
    static void theFirstThatACallNames() {
        PaleFence x = Check.fenced("rwb");
        Check.due("colours(1): BAD ahead of NOT", x.colours(1), -1);
        Check.due("scrape(49): BAD ahead of NOT", x.scrape(49), -1);
        Check.types(x, " ".repeat(100));
        Check.due("type: BAD ahead of FULL", x.type(31, 1), -1);
        x = Check.fenced(Check.squareFree(47) + Check.squareFree(47).charAt(46));
        Check.due("paint(3): BAD ahead of NOT, FULL", x.paint(3), -1);
        Check.due("paint(0): NOT ahead of FULL", x.paint(0), -2);
        Check.due("lots(49): BAD ahead of FULL", x.lots(49), -1);
        Check.due("wins(9): BAD ahead of NOT", x.wins(9), -1);
    }

    @Edge(promise = {11, 15, 16, 19, 20}, part = "Terms", says = "Refusals are answers, of several the first that a call names")
    static void badAheadOfNone() {
        PaleFence x = Check.fenced(2, 0, 2, "rwr");
        Check.due("fault(2)", x.fault(2), -1);
        Check.due("go(17, 0)", x.go(17, 0), -1);
        Check.due("less(13)", x.less(13), -1);
        Check.due("ring(8, 8)", x.ring(8, 8), -1);
        Check.due("cheap(8, 8)", x.cheap(8, 8), -1);
    }

    /** Sheet 0 holds nothing, sheet 1 five shorts: 0 1 2 3 7. */
    private static PaleFence paged() {
        PaleFence x = Check.fenced("rwb");
        Check.fill(x, 1, 1, 0, 1, 2, 3, 7);
        return x;
    }

    @Edge(promise = {29, 30, 31, 34}, part = "Terms", says = "(NULL, CAST, INDEX, SIZE in this order, behind BAD)")
    static void theMachineFindsInThisOrder() {
        PaleFence x = paged();
        Check.due("storm: BAD ahead of NULL", x.storm(0, 3, -1, 1, -1), -1);
        Check.due("storm: NULL ahead of INDEX", x.storm(0, 0, -1, 1, -1), -11);
        Check.due("storm: CAST ahead of INDEX", x.storm(1, 0, -1, 1, -1), -12);
        Check.due("storm: INDEX ahead of NOT", x.storm(1, 1, 4, 2, -1), -13);
        Check.due("build: BAD ahead of NULL", x.build(0, 0, -1, 49), -1);
        Check.due("build: NULL ahead of INDEX", x.build(0, 0, -1, 1), -11);
        Check.due("build: CAST ahead of INDEX", x.build(1, 0, -1, 1), -12);
        Check.due("build: INDEX ahead of NOT", x.build(1, 1, 4, 2), -13);
        Check.due("film: BAD ahead of NULL", x.film(0, 3, -1), -1);
        Check.due("film: NULL ahead of INDEX", x.film(0, 0, -1), -11);
        Check.due("film: CAST ahead of INDEX", x.film(1, 0, -1), -12);
        Check.due("item: BAD ahead of NULL", x.item(0, 3, -1, 0), -1);
        Check.due("item: NULL ahead of INDEX", x.item(0, 0, -1, 0), -11);
        Check.due("item: CAST ahead of INDEX", x.item(1, 0, -1, 0), -12);
    }

    @Edge(promise = 35, part = "Terms", says = "(NULL, CAST, INDEX, SIZE in this order, behind BAD)")
    static void copyFindsInThisOrder() {
        PaleFence x = paged();
        x.sheet(2, 2, 5);
        Check.due("BAD ahead of NULL", x.copy(0, 0, 4, 0, 1), -1);
        Check.due("BAD ahead of NULL", x.copy(-1, 0, 0, 0, 1), -1);
        Check.due("NULL ahead of INDEX", x.copy(0, -1, 1, 0, 1), -11);
        Check.due("NULL ahead of CAST, INDEX", x.copy(2, 0, 0, 0, -1), -11);
        Check.due("CAST ahead of INDEX", x.copy(1, 0, 2, 0, 6), -12);
        Check.due("CAST ahead of INDEX", x.copy(2, -1, 1, 0, -1), -12);
    }

    @Edge(promise = 32, part = "Terms", says = "(NULL, CAST, INDEX, SIZE in this order, behind BAD)")
    static void sizeBehindBad() {
        PaleFence x = paged();
        Check.due("no sheet", x.sheet(4, 0, -1), -1);
        Check.due("no lane", x.sheet(1, 3, -1), -1);
        Check.due("SIZE", x.sheet(1, 1, -1), -14);
    }

    @Edge(promise = {29, 30}, part = "Terms", says = "Refusals are answers, of several the first that a call names")
    static void whatTheMachineFindsIsAheadOfNotAndNone() {
        PaleFence x = paged();
        Check.due("build: NULL ahead of NOT", x.build(0, 1, 3, 2), -11);
        Check.due("build: NOT", x.build(1, 1, 3, 2), -2);
        Check.reads(x, "rrrw");
        Check.due("storm: NOT ahead of NONE", x.storm(1, 1, 3, 2, 0), -2);
        Check.due("storm: BAD ahead of NONE", x.storm(1, 1, 3, 1, 1), -1);
        Check.due("storm: NONE", x.storm(1, 1, 3, 1, 0), -4);
    }

    // what is refused changes nothing

    private static final String NO_CHANGE = "What is refused changes nothing";

    private static void stays(String call, int want, ToIntFunction<PaleFence> asked) {
        Twin.changesNothing(Twin::withTape, call, want, asked);
    }

    private static void stays(Supplier<PaleFence> made, String call, int want, ToIntFunction<PaleFence> asked) {
        Twin.changesNothing(made, call, want, asked);
    }

    @Edge(promise = {2, 3, 4, 5, 6, 7, 8, 10}, part = "Terms", says = NO_CHANGE)
    static void refusedByFencesChangesNothing() {
        stays("colours(1)", -1, x -> x.colours(1));
        stays("colours(5)", -1, x -> x.colours(5));
        stays("colours(2)", -2, x -> x.colours(2));
        stays("price(4, 5)", -1, x -> x.price(4, 5));
        stays("price(0, -1)", -1, x -> x.price(0, -1));
        stays("price(3, 100)", -1, x -> x.price(3, 100));
        stays("rule(0, 4)", -1, x -> x.rule(0, 4));
        stays("rule(0, -1)", -1, x -> x.rule(0, -1));
        stays("rule(1, 0)", -1, x -> x.rule(1, 0));
        stays("rule(1, 10)", -1, x -> x.rule(1, 10));
        stays("rule(2, 1)", -1, x -> x.rule(2, 1));
        stays("paint(3)", -1, x -> x.paint(3));
        stays("paint(2)", -2, x -> x.paint(2));
        stays(Twin::full, "paint the 49th", -3, x -> x.paint(Check.colour(Check.squareFree(49), 48)));
        stays("scrape(0)", -1, x -> x.scrape(0));
        stays("scrape(49)", -1, x -> x.scrape(49));
        stays("scrape(6)", -2, x -> x.scrape(6));
        stays("pale(5)", -1, x -> x.pale(5));
        stays("type(rwbrwbrw, 0)", -1, x -> x.type(Check.word("rwbrwbrw"), 0));
        stays("type(rwbrwbrw, 9)", -1, x -> x.type(Check.word("rwbrwbrw"), 9));
        stays("type, the last byte is bad", -1, x -> x.type(Check.word("rwbrwbr") << 8 | 31, 8));
        stays("type, the first byte is bad", -1, x -> x.type(Check.word("rwbrwbr") | 127L << 56, 8));
        stays(Twin::full, "type of 4 behind 97", -3, x -> x.type(Check.word("wrwb"), 4));
        stays("count(6)", -1, x -> x.count(6));
    }

    @Edge(promise = {11, 13, 14, 15, 16, 17, 18, 19, 20, 21}, part = "Terms", says = NO_CHANGE)
    static void refusedHowFarChangesNothing() {
        stays("fault(2)", -1, x -> x.fault(2));
        stays("fault(0)", -4, x -> x.fault(0));
        stays("kind(5)", -1, x -> x.kind(5));
        stays("far(17)", -1, x -> x.far(17));
        stays("go(0, 0)", -1, x -> x.go(0, 0));
        stays("go(16, -1)", -1, x -> x.go(16, -1));
        stays("go(1, 1)", -4, x -> x.go(1, 1));
        stays(Twin::stuck, "go(16, 0)", -4, x -> x.go(16, 0));
        stays("less(13)", -1, x -> x.less(13));
        stays(Twin::stuck, "less(12)", -4, x -> x.less(12));
        stays("many(10)", -1, x -> x.many(10));
        stays("rings(9)", -1, x -> x.rings(9));
        stays("ring(5, 5)", -1, x -> x.ring(5, 5));
        stays("ring(5, 0)", -4, x -> x.ring(5, 0));
        stays("cheap(3, 3)", -1, x -> x.cheap(3, 3));
        stays(Twin::stuck, "cheap(4, -1)", -4, x -> x.cheap(4, -1));
        stays("wins(9)", -1, x -> x.wins(9));
        stays(Twin::notLawful, "wins(8)", -2, x -> x.wins(8));
    }

    @Edge(promise = {22, 23, 24, 25, 26, 28}, part = "Terms", says = NO_CHANGE)
    static void refusedOfTornChangesNothing() {
        stays("tear(5)", -1, x -> x.tear(5));
        stays("tear(-1)", -1, x -> x.tear(-1));
        stays("mends(5)", -1, x -> x.mends(5));
        stays("replace(5, 0)", -1, x -> x.replace(5, 0));
        stays("replace(4, 3)", -1, x -> x.replace(4, 3));
        stays("replace(4, -1)", -1, x -> x.replace(4, -1));
        stays("lots(0)", -1, x -> x.lots(0));
        stays("lots(49)", -1, x -> x.lots(49));
        stays("lots(44)", -3, x -> x.lots(44));
        stays("seed(-1)", -1, x -> x.seed(-1));
        stays(Twin::noImage, "restore()", -4, x -> x.restore());
    }

    @Edge(promise = {29, 30, 31}, part = "Terms", says = NO_CHANGE)
    static void refusedOfPagesChangesNothing() {
        stays("storm: BAD", -1, x -> x.storm(0, 0, 0, 5, -1));
        stays("storm: NULL", -11, x -> x.storm(3, 0, 0, 1, -1));
        stays("storm: CAST", -12, x -> x.storm(0, 1, 0, 1, -1));
        stays("storm: INDEX", -13, x -> x.storm(0, 0, 5, 1, -1));
        stays("storm: NOT", -2, x -> x.storm(2, 2, 0, 3, -1));
        stays(Twin::notLawful, "storm: NONE", -4, x -> x.storm(0, 0, 2, 1, 0));
        stays("build: BAD", -1, x -> x.build(0, 0, 0, 49));
        stays("build: NULL", -11, x -> x.build(3, 0, 0, 0));
        stays("build: CAST", -12, x -> x.build(0, 1, 0, 1));
        stays("build: INDEX", -13, x -> x.build(0, 0, 4, 2));
        stays("build: NOT", -2, x -> x.build(2, 2, 0, 2));
        stays("film: BAD", -1, x -> x.film(4, 0, 0));
        stays("film: NULL", -11, x -> x.film(3, 0, 0));
        stays("film: CAST", -12, x -> x.film(0, 1, 0));
        stays("film: INDEX of 5 from 1 on", -13, x -> x.film(0, 0, 1));
        stays("film: INDEX of 5 in 2", -13, x -> x.film(1, 1, 0));
    }

    @Edge(promise = {32, 33, 34, 35}, part = "Terms", says = NO_CHANGE)
    static void refusedOfSheetsChangesNothing() {
        stays("sheet: BAD", -1, x -> x.sheet(0, 0, 49));
        stays("sheet: BAD", -1, x -> x.sheet(0, 3, 1));
        stays("sheet: SIZE", -14, x -> x.sheet(0, 0, -1));
        stays("drop: BAD", -1, x -> x.drop(4));
        stays("drop: NULL", -11, x -> x.drop(3));
        stays("item: BAD", -1, x -> x.item(0, 3, 0, 2));
        stays("item: NULL", -11, x -> x.item(3, 0, 0, 2));
        stays("item: CAST", -12, x -> x.item(0, 1, 0, 2));
        stays("item: INDEX", -13, x -> x.item(0, 0, 5, 2));
        stays("copy: BAD", -1, x -> x.copy(0, 0, 4, 0, 1));
        stays("copy: NULL", -11, x -> x.copy(0, 0, 3, 0, 1));
        stays("copy: CAST", -12, x -> x.copy(0, 0, 1, 0, 1));
        stays("copy: INDEX", -13, x -> x.copy(0, 1, 0, 0, 5));
        stays("copy: INDEX", -13, x -> x.copy(0, 0, 0, 1, 5));
    }

    @Edge(promise = 9, part = "Terms", says = "What is refused changes nothing, but as told.")
    static void aTextRefusedEmptiesTheTapeAlone() {
        PaleFence x = Twin.common();
        Check.types(x, "rwrwx");
        Check.due("fence()", x.fence(), -24);
        Twin.same("fence()", x, Twin.common());
    }
}
