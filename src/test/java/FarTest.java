/** Promises 11 to 21: how far. */
public final class FarTest {
    private static final int MIN = Integer.MIN_VALUE, MAX = Integer.MAX_VALUE;

    // How much is to be scraped off rrrwrrr for 5 to 10 more, the longest row having 18.
    private static final int[] LESS_OF_LONG = {3, 3, 3, 3, 5, 6};

    public static void main(String[] args) {
        fault();
        may();
        kind();
        far();
        go();
        less();
        many();
        rings();
        ring();
        cheap();
        cheapLikeOnes();
        wins();
        Check.end();
    }

    private static void faultIs(int colours, int law, int least, String row, int pales, int stretch) {
        PaleFence x = Check.fenced(colours, law, least, row);
        String call = law + " " + least + " " + row + ": fault";
        Check.due(call + "(0)", x.fault(0), pales);
        Check.due(call + "(1)", x.fault(1), stretch);
        Check.due(call + "(2)", x.fault(2), -1);
        Check.stands(x, row);
    }

    private static void fault() {
        Check.part("promise 11");
        PaleFence x = new PaleFence();
        for (int what : new int[] {MIN, -1, 2, MAX}) {
            Check.due("fault(" + what + ")", x.fault(what), -1);
        }
        faultIs(3, 0, 2, "", -4, -4);
        faultIs(3, 0, 2, "r", -4, -4);
        faultIs(3, 0, 2, "rr", 2, 1);
        faultIs(3, 0, 2, "rwrwbb", 4, 2);
        faultIs(3, 0, 2, "rwbb", 4, 1);
        faultIs(3, 0, 9, "wrwbrwb", 7, 3);
        faultIs(2, 1, 2, "rr", -4, -4);
        faultIs(2, 1, 2, "wrrrw", 4, 1);
        faultIs(2, 1, 2, "rwrw", -4, -4);
        faultIs(2, 1, 2, "rwrwrw", 6, 2);
        faultIs(2, 1, 2, "rwrrwrwrrw", -4, -4);
        faultIs(3, 2, 2, "rwbwrb", 6, 3);
        faultIs(3, 2, 2, "rwbwr", -4, -4);
        faultIs(3, 0, 2, "rwbwrb", -4, -4);
        faultIs(4, 2, 2, "rwbgbwrg", 8, 4);
        faultIs(3, 2, 2, "rwrw", 4, 2);
        faultIs(3, 3, 2, "rrr", -4, -4);
        faultIs(3, 3, 2, "rrrr", 4, 2);
        faultIs(3, 3, 1, "rr", 2, 1);
        faultIs(2, 3, 3, "rwrwr", -4, -4);
        faultIs(2, 3, 3, "rwrwrwrw", 8, 4);
        faultIs(3, 3, 3, "rwbrwb", 6, 3);
        faultIs(3, 3, 4, "rwbrwb", -4, -4);
        faultIs(3, 3, 9, "rwb".repeat(16), 18, 9);
        // At the end of 22 pales both a stretch of 9 and one of 11 comes twice.
        faultIs(2, 3, 9, "wrrwrwrwrwrwrrwrwrwrwr", 22, 9);
        faultIs(2, 3, 9, "wrrwrwrwrwrwrrwrwrwrw", -4, -4);
        String row = Check.squareFree(48);
        faultIs(3, 0, 2, row, -4, -4);
        faultIs(3, 0, 2, row.substring(0, 47) + row.charAt(46), 48, 1);
        faultIs(3, 0, 2, Check.squareFree(24) + Check.squareFree(24), 48, 24);
    }

    private static void mayIs(int colours, int law, int least, String row, int set) {
        PaleFence x = Check.fenced(colours, law, least, row);
        Check.due(law + " " + row + ": may()", x.may(), set);
        Check.stands(x, row);
    }

    private static void may() {
        Check.part("promise 12");
        mayIs(2, 0, 2, "", 3);
        mayIs(3, 0, 2, "", 7);
        mayIs(4, 0, 2, "", 15);
        mayIs(3, 0, 2, "r", 6);
        mayIs(4, 0, 2, "r", 14);
        mayIs(3, 0, 2, "rwr", 4);
        mayIs(2, 0, 2, "rwr", 0);
        mayIs(3, 0, 2, "rwrbrwr", 0);
        mayIs(4, 0, 2, "rwrbrwr", 8);
        mayIs(3, 0, 2, "rr", 0);
        mayIs(3, 0, 2, "rrw", 0);
        mayIs(3, 1, 2, "rr", 6);
        mayIs(3, 2, 2, "rwbwr", 2);
        mayIs(4, 2, 2, "rwbwr", 10);
        mayIs(3, 0, 2, "rwbwr", 6);
        mayIs(3, 2, 2, "rwrbrwr", 0);
        mayIs(2, 3, 2, "rrr", 2);
        mayIs(2, 3, 3, "rrr", 3);
        // Behind 48 pales, too, there are colours by which the row is lawful.
        String row = Check.squareFree(49);
        int next = "rwb".indexOf(row.charAt(48));
        PaleFence x = Check.fenced(row.substring(0, 48));
        Check.due("the 49th colour", x.may() >> next & 1, 1);
        mayIs(3, 0, 2, Check.STUCK_AT_48, 0);
        mayIs(2, 3, 9, "r".repeat(17), 2);
        mayIs(2, 3, 9, "r".repeat(16), 3);
    }

    private static void kindsAre(int colours, int law, String row, int... kinds) {
        PaleFence x = Check.fenced(colours, law, 2, row);
        for (int i = 0; i < kinds.length; i++) {
            Check.due(row + ": kind(" + i + ")", x.kind(i), kinds[i]);
        }
        Check.due(row + ": kind behind the last", x.kind(kinds.length), -1);
        Check.stands(x, row);
    }

    private static void kind() {
        Check.part("promise 13");
        PaleFence x = Check.fenced("rw");
        for (int i : new int[] {MIN, -1, 2, 48, MAX}) {
            Check.due("kind(" + i + ")", x.kind(i), -1);
        }
        kindsAre(3, 0, "");
        kindsAre(3, 0, "rwrbrwr", 0, 0, 0, 1, 0, 1, 3);
        kindsAre(3, 0, "rwrbrwrb", 0, 0, 0, 1, 0, 1, 3, 2);
        kindsAre(3, 0, "rrwbr", 0, 2, 2, 2, 2);
        kindsAre(2, 0, "rwr", 0, 1, 3);
        kindsAre(2, 0, "rwrw", 0, 1, 3, 2);
        kindsAre(2, 1, "rrwrr", 0, 0, 1, 0, 0);
        kindsAre(3, 2, "rwbwr", 0, 0, 0, 0, 1);
        kindsAre(4, 0, "rwrbrwrg", 0, 0, 0, 0, 0, 0, 0, 1);
        x = Check.fenced(Check.STUCK_AT_48);
        Check.due("kind(47)", x.kind(47), 3);
        Check.due("kind(46)", x.kind(46), 0);
        Check.due("kind(48)", x.kind(48), -1);
    }

    private static void far() {
        Check.part("promise 14");
        PaleFence x = new PaleFence();
        for (int n : new int[] {MIN, -1, 17, MAX}) {
            Check.due("far(" + n + ")", x.far(n), -1);
        }
        for (int n = 0; n <= 16; n++) {
            Check.due("far(" + n + ")", x.far(n), n);
        }
        int[] two = {3, 2, 1, 0};
        for (int k = 0; k <= 3; k++) {
            x = Check.fenced(2, 0, 2, "rwr".substring(0, k));
            Check.due("far(16) of two colours", x.far(16), two[k]);
            Check.due("far(2)", x.far(2), Math.min(2, two[k]));
            Check.due("far(0)", x.far(0), 0);
        }
        Check.due("any order, three colours", Check.fenced(3, 2, 2, "").far(16), 7);
        Check.due("any order, from a pale on", Check.fenced(3, 2, 2, "rw").far(16), 5);
        Check.due("thrice, two colours", Check.fenced(2, 1, 2, "").far(16), 16);
        Check.due("long, two colours", Check.fenced(2, 3, 2, "").far(16), 16);
        Check.due("not lawful", Check.fenced("rr").far(16), 0);
        Check.due("not lawful ahead", Check.fenced("rrwb").far(1), 0);
        Check.due("stuck", Check.fenced("rwrbrwr").far(1), 0);
        Check.due("not where it is stuck", Check.fenced("rwrbrw").far(16), 16);
        x = Check.fenced(Check.squareFree(48));
        Check.due("more than 48 together", x.far(16), 16);
        Check.stands(x, Check.squareFree(48));
        Check.due("stuck behind 48", Check.fenced(Check.STUCK_AT_48).far(16), 0);
        Check.due("stuck behind 49", Check.fenced(Check.STUCK_AT_49).far(16), 1);
    }

    private static void goes(PaleFence x, int n, String row) {
        for (int i = 0; i < row.length(); i++) {
            Check.due("go(" + n + ", " + i + ")", x.go(n, i), "rwbg".indexOf(row.charAt(i)));
        }
        Check.due("go(" + n + ", " + row.length() + ")", x.go(n, row.length()), -4);
    }

    private static void go() {
        Check.part("promise 15");
        PaleFence x = new PaleFence();
        int[][] bad = {{0, 0}, {-1, 0}, {17, 0}, {MIN, 0}, {MAX, 0}, {1, -1}, {16, MIN}, {0, -1}};
        for (int[] b : bad) {
            Check.due("go(" + b[0] + ", " + b[1] + ")", x.go(b[0], b[1]), -1);
        }
        Check.due("go(1, 1)", x.go(1, 1), -4);
        Check.due("go(16, 16)", x.go(16, 16), -4);
        Check.due("go(16, MAX)", x.go(16, MAX), -4);
        goes(x, 1, "r");
        goes(x, 7, "rwrbrwr");
        goes(x, 8, "rwrbrwbr");
        goes(Check.fenced("rwrbrw"), 1, "r");
        goes(Check.fenced("rwrbrw"), 2, "br");
        goes(Check.fenced("rwrbrwr"), 16, "");
        goes(Check.fenced("rr"), 16, "");
        goes(Check.fenced(2, 0, 2, ""), 16, "rwr");
        goes(Check.fenced(2, 0, 2, "w"), 16, "rw");
        goes(Check.fenced(3, 2, 2, ""), 16, "rwrbrwr");
        goes(Check.fenced(3, 2, 2, "b"), 16, "rwrbrw");
        goes(Check.fenced(2, 1, 2, ""), 6, "rrwrrw");
        goes(Check.fenced(2, 3, 2, "r"), 3, "rrw");
        x = Check.fenced(Check.squareFree(48));
        Check.holds("go behind 48 pales", x.go(16, 15) >= 0);
        Check.due("go behind 48 pales", x.go(16, 16), -4);
        Check.stands(x, Check.squareFree(48));
    }

    private static void less() {
        Check.part("promise 16");
        PaleFence x = new PaleFence();
        for (int n : new int[] {MIN, -1, 0, 13, MAX}) {
            Check.due("less(" + n + ")", x.less(n), -1);
        }
        for (int n = 1; n <= 12; n++) {
            Check.due("less(" + n + ") of none", x.less(n), 0);
        }
        Check.due("stuck", Check.fenced("rwrbrwr").less(1), 1);
        Check.due("stuck", Check.fenced("rwrbrwr").less(12), 1);
        Check.due("two colours, none", Check.fenced(2, 0, 2, "").less(3), 0);
        Check.due("two colours, none", Check.fenced(2, 0, 2, "").less(4), -4);
        Check.due("two colours, r", Check.fenced(2, 0, 2, "r").less(2), 0);
        Check.due("two colours, r", Check.fenced(2, 0, 2, "r").less(3), -4);
        Check.due("two colours, rwr", Check.fenced(2, 0, 2, "rwr").less(1), -4);
        Check.due("two colours, rr", Check.fenced(2, 0, 2, "rr").less(1), 1);
        Check.due("two colours, rr", Check.fenced(2, 0, 2, "rr").less(2), -4);
        Check.due("any order", Check.fenced(3, 2, 2, "rwb").less(4), 0);
        Check.due("any order, 8 together", Check.fenced(3, 2, 2, "rwb").less(5), -4);
        Check.due("any order, 5 pales", Check.fenced(3, 2, 2, "rwbwr").less(2), 0);
        for (int n = 5; n < 11; n++) {
            Check.due("long, less(" + n + ")", Check.fenced(2, 3, 2, "rrrwrrr").less(n), LESS_OF_LONG[n - 5]);
        }
        Check.due("long, 12 off", Check.fenced(2, 3, 2, "wwrwwwrrrwwrw").less(4), 12);
        x = Check.fenced("rwb" + "b".repeat(12));
        Check.due("12 off", x.less(1), 12);
        Check.due("12 off", x.less(12), 12);
        Check.stands(x, "rwb" + "b".repeat(12));
        Check.due("13 would help", Check.fenced("rwb" + "b".repeat(13)).less(1), -4);
        Check.due("more than 48 together", Check.fenced(Check.squareFree(48)).less(12), 0);
        String row = Check.squareFree(47);
        Check.due("48, the last not lawful", Check.fenced(row + row.charAt(46)).less(3), 1);
    }

    private static void manyAre(int colours, int law, int least, int... due) {
        PaleFence x = Check.fenced(colours, law, least, "r");
        for (int n = 0; n < due.length; n++) {
            Check.due(colours + " " + law + " " + least + ": many(" + n + ")", x.many(n), due[n]);
        }
    }

    private static void many() {
        Check.part("promise 17");
        PaleFence x = new PaleFence();
        for (int n : new int[] {MIN, -1, 10, MAX}) {
            Check.due("many(" + n + ")", x.many(n), -1);
        }
        manyAre(2, 0, 2, 1, 2, 2, 2, 0, 0, 0, 0, 0, 0);
        manyAre(3, 0, 2, 1, 3, 6, 12, 18, 30, 42, 60, 78, 108);
        manyAre(4, 0, 2, 1, 4, 12, 36, 96, 264, 696, 1848, 4848, 12768);
        manyAre(2, 1, 2, 1, 2, 4, 6, 10, 16, 24, 36, 56, 80);
        manyAre(3, 2, 2, 1, 3, 6, 12, 18, 30, 30, 18, 0, 0);
        manyAre(3, 3, 1, 1, 3, 6, 12, 18, 30, 42, 60, 78, 108);
        manyAre(2, 3, 2, 1, 2, 4, 8, 12);
        manyAre(2, 3, 9, 1, 2, 4, 8, 16, 32, 64, 128, 256, 512);
        manyAre(4, 3, 9, 1, 4, 16, 64, 256, 1024, 4096, 16384, 65536, 262144);
        manyAre(4, 3, 5, 1, 4, 16, 64, 256, 1024, 4096, 16384, 65536, 262144);
        Check.due("not by the fence", Check.fenced("rrr").many(9), 108);
    }

    private static void ringsAre(int colours, int law, int least, int... due) {
        PaleFence x = Check.fenced(colours, law, least, "r");
        for (int n = 1; n <= due.length; n++) {
            Check.due(colours + " " + law + " " + least + ": rings(" + n + ")", x.rings(n), due[n - 1]);
        }
    }

    private static void rings() {
        Check.part("promise 18");
        PaleFence x = new PaleFence();
        for (int n : new int[] {MIN, -1, 0, 9, MAX}) {
            Check.due("rings(" + n + ")", x.rings(n), -1);
        }
        ringsAre(2, 0, 2, 2, 2, 0, 0, 0, 0, 0, 0);
        ringsAre(3, 0, 2, 3, 6, 6, 12, 0, 18, 0, 24);
        ringsAre(2, 1, 2, 2, 4, 6, 6, 10, 18, 14, 28);
        ringsAre(2, 3, 9, 2, 4, 8, 16, 32, 64, 128, 256);
        ringsAre(4, 3, 9, 4, 16, 64, 256, 1024, 4096, 16384, 65536);
    }

    private static void ringIs(int colours, int law, int least, int n, String row) {
        PaleFence x = Check.fenced(colours, law, least, "r");
        for (int i = 0; i < n; i++) {
            int due = row.isEmpty() ? -4 : "rwbg".indexOf(row.charAt(i));
            Check.due(colours + " " + law + ": ring(" + n + ", " + i + ")", x.ring(n, i), due);
        }
        Check.due("ring(" + n + ", " + n + ")", x.ring(n, n), -1);
        Check.due("ring(" + n + ", -1)", x.ring(n, -1), -1);
    }

    private static void ring() {
        Check.part("promise 19");
        PaleFence x = new PaleFence();
        int[][] bad = {{0, 0}, {-1, 0}, {9, 0}, {MAX, 0}, {MIN, 0}, {5, -1}, {5, 5}, {5, MAX}, {5, MIN}};
        for (int[] b : bad) {
            Check.due("ring(" + b[0] + ", " + b[1] + ")", x.ring(b[0], b[1]), -1);
        }
        ringIs(3, 0, 2, 1, "r");
        ringIs(3, 0, 2, 2, "rw");
        ringIs(3, 0, 2, 3, "rwb");
        ringIs(3, 0, 2, 4, "rwrb");
        ringIs(3, 0, 2, 5, "");
        ringIs(3, 0, 2, 6, "rwrbwb");
        ringIs(3, 0, 2, 7, "");
        ringIs(3, 0, 2, 8, "rwrbwrwb");
        ringIs(2, 0, 2, 3, "");
        ringIs(2, 1, 2, 4, "rrww");
        ringIs(2, 1, 2, 3, "rrw");
        ringIs(4, 3, 9, 8, "rrrrrrrr");
    }

    private static void cheapIs(PaleFence x, int n, int sum, String row) {
        Check.due("cheap(" + n + ", -1)", x.cheap(n, -1), sum);
        for (int i = 0; i < n; i++) {
            int due = row.isEmpty() ? -4 : "rwbg".indexOf(row.charAt(i));
            Check.due("cheap(" + n + ", " + i + ")", x.cheap(n, i), due);
        }
        Check.due("cheap(" + n + ", " + n + ")", x.cheap(n, n), -1);
        Check.due("cheap(" + n + ", -2)", x.cheap(n, -2), -1);
    }

    private static void cheap() {
        Check.part("promise 20");
        PaleFence x = new PaleFence();
        int[][] bad = {{0, -1}, {0, 0}, {-1, -1}, {9, -1}, {9, 0}, {MAX, 0}, {MIN, 0}, {5, -2}, {5, 5}, {5, MAX},
            {5, MIN}};
        for (int[] b : bad) {
            Check.due("cheap(" + b[0] + ", " + b[1] + ")", x.cheap(b[0], b[1]), -1);
        }
        cheapIs(x, 8, 8, "rwrbrwbr");
        x.price(0, 5);
        x.price(2, 3);
        cheapIs(x, 1, 1, "w");
        cheapIs(x, 2, 4, "wb");
        cheapIs(x, 3, 5, "wbw");
        cheapIs(x, 4, 10, "rwbw");
        x.rule(0, 1);
        cheapIs(x, 4, 6, "wwbw");
        cheapIs(x, 5, 7, "wwbww");
        x.rule(0, 3);
        x.rule(1, 9);
        cheapIs(x, 8, 8, "wwwwwwww");
        x = Check.fenced(2, 0, 2, "rr");
        cheapIs(x, 3, 3, "rwr");
        cheapIs(x, 4, -4, "");
        cheapIs(x, 8, -4, "");
        x.price(1, 0);
        cheapIs(x, 3, 1, "wrw");
    }

    private static void cheapLikeOnes() {
        Check.part("promise 20, of like ones the first");
        PaleFence x = Check.fenced(4, 3, 9, "");
        for (int c = 0; c < 4; c++) {
            x.price(c, 99);
        }
        cheapIs(x, 8, 792, "rrrrrrrr");
        x.price(2, 0);
        x.price(3, 0);
        cheapIs(x, 8, 0, "bbbbbbbb");
        x.price(3, 98);
        x.rule(0, 0);
        cheapIs(x, 2, 98, "bg");
        x.price(0, 98);
        cheapIs(x, 2, 98, "rb");
        // The least price may be the first colour's.
        x = new PaleFence();
        x.price(0, 0);
        x.price(1, 10);
        x.price(2, 9);
        cheapIs(x, 3, 9, "rbr");
        // A colour that there is not has no price that counts.
        x = Check.fenced(4, 0, 2, "");
        x.colours(3);
        x.price(0, 7);
        x.price(1, 7);
        x.price(2, 7);
        x.price(3, 0);
        cheapIs(x, 3, 21, "rwr");
    }

    private static void winsAre(PaleFence x, int... due) {
        String row = Check.shown(x);
        for (int n = 0; n < due.length; n++) {
            Check.due(row + ": wins(" + n + ")", x.wins(n), due[n]);
        }
        Check.stands(x, row);
    }

    private static void wins() {
        Check.part("promise 21");
        PaleFence x = new PaleFence();
        for (int n : new int[] {MIN, -1, 9, MAX}) {
            Check.due("wins(" + n + ")", x.wins(n), -1);
        }
        winsAre(x, 2, 2, 2, 2, 2, 2, 2);
        Check.due("wins(8)", x.wins(8), 1);
        winsAre(Check.fenced(2, 0, 2, ""), 2, 2, 2, 1, 1, 1, 1, 1, 1);
        winsAre(Check.fenced(2, 0, 2, "r"), 2, 2, 0, 0, 0, 0, 0, 0, 0);
        winsAre(Check.fenced(2, 0, 2, "rw"), 2, 1, 1, 1, 1, 1, 1, 1, 1);
        winsAre(Check.fenced(2, 0, 2, "rwr"), 0, 0, 0, 0, 0, 0, 0, 0, 0);
        winsAre(Check.fenced("rwrbrwr"), 0, 0, 0, 0, 0, 0, 0, 0, 0);
        winsAre(Check.fenced("rwrbrw"), 2, 1, 1, 1, 1, 1, 1, 1, 1);
        winsAre(Check.fenced("rr"), -2, -2, -2, -2, -2, -2, -2, -2, -2);
        Check.due("wins(9), not lawful", Check.fenced("rr").wins(9), -1);
        winsAre(Check.fenced(2, 3, 9, ""), 2, 2, 2, 2, 2, 2, 2, 2, 2);
        winsAre(Check.fenced(3, 2, 2, "rwb"), 2, 2, 2, 2, 0, 0, 0, 0, 0);
        winsAre(Check.fenced(3, 0, 2, "rwr"), 2, 2, 2, 2, 0, 0, 0, 0, 0);
        winsAre(Check.fenced(3, 0, 2, "rwrb"), 2, 2, 2, 1, 1, 1, 1, 1, 1);
        x = Check.fenced("rwrbrw");
        x.many(9);
        Check.due("wins(1) behind another call", x.wins(1), 1);
        Check.due("wins(8) after rwb", Check.fenced("rwb").wins(8), 2);
        Check.due("wins(7) of no pale", new PaleFence().wins(7), 1);
        winsAre(Check.fenced(Check.STUCK_AT_48), 0, 0, 0, 0, 0, 0, 0, 0, 0);
        winsAre(Check.fenced(Check.STUCK_AT_49), 2, 1, 1, 1, 1, 1, 1, 1, 1);
        Check.due("four colours", Check.fenced(4, 3, 9, "").wins(8), 2);
    }
}
