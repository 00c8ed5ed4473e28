/**
 * A fence painted pale by pale, in which no stretch may come twice running, or what else its law
 * forbids. Every call answers by a number; a refusal is a number below 0.
 */
public final class PaleFence {
    public static final int BAD = -1, NOT = -2, FULL = -3, NONE = -4, NULL = -11, CAST = -12, INDEX = -13, SIZE = -14;

    private static final int MOST_PALES = 48;
    private static final int LEAST_COLOURS = 2;
    private static final int MOST_COLOURS = 4;
    private static final int MOST_PRICE = 99;
    private static final int LONGEST_LEAST = 9;

    private static final int TWICE = 0, THRICE = 1, ANY = 2, LONG = 3;
    private static final int FREE = 0, FORCED = 1, DOUBLED = 2, LAST = 3;

    private static final int MOST_FAR = 16;
    private static final int MOST_SCRAPED = 12;
    private static final int MOST_MANY = 9;
    private static final int MOST_RING = 8;
    private static final int MOST_TURNS = 8;
    private static final int MOST_LOST = 4;

    private static final int LOWEST_31_BITS = 0x7fffffff;

    // What a search has painted together is 64 pales at most (far 16 behind 48); some to spare.
    private static final int ROOM = 72;

    private static final int MOST_TAPE = 100;
    private static final int FIRST_BYTE = 32, LAST_BYTE = 126, BLANK = 32;
    private static final int TEXT_FAULT = -20;
    private static final String LETTERS = "rwbg";

    private static final int SHEETS = 4;
    private static final int BYTES = 0, SHORTS = 1, INTS = 2;
    private static final int NOTHING = -1;

    private final State now = new State();
    private final State kept = new State();
    private boolean hasImage;
    private final Tape tape = new Tape();
    private final Sheet[] sheets = new Sheet[SHEETS];

    // Rows that the calls try their pales in, made once and used again by each call.
    private final Row work = new Row();
    private final Row found = new Row();
    private final int[] lost = new int[MOST_LOST];

    public PaleFence() {
        for (int s = 0; s < SHEETS; s++) {
            sheets[s] = new Sheet();
        }
    }

    // ---- 1 fences, laws

    public int colours(int v) {
        if (v < LEAST_COLOURS || v > MOST_COLOURS) {
            return BAD;
        }
        for (int i = 0; i < now.row.size; i++) {
            if (now.row.at(i) >= v) {
                return NOT;
            }
        }
        int was = now.rules.colours;
        now.rules.colours = v;
        return was;
    }

    public int price(int colour, int v) {
        if (colour < 0 || colour >= MOST_COLOURS || v < 0 || v > MOST_PRICE) {
            return BAD;
        }
        int was = now.rules.priceOf(colour);
        now.rules.setPrice(colour, v);
        return was;
    }

    public int rule(int what, int v) {
        if (what == 0 && v >= TWICE && v <= LONG) {
            int was = now.rules.law;
            now.rules.law = v;
            return was;
        }
        if (what == 1 && v >= 1 && v <= LONGEST_LEAST) {
            int was = now.rules.least;
            now.rules.least = v;
            return was;
        }
        return BAD;
    }

    public int paint(int colour) {
        if (!now.rules.hasColour(colour)) {
            return BAD;
        }
        if ((openBehind(now.row.size) >> colour & 1) == 0) {
            return NOT;
        }
        if (now.row.size >= MOST_PALES) {
            return FULL;
        }
        now.row.add(colour);
        return now.row.size;
    }

    public int scrape(int n) {
        if (n < 1 || n > MOST_PALES) {
            return BAD;
        }
        if (n > now.row.size) {
            return NOT;
        }
        now.row.cut(n);
        return now.row.size;
    }

    public int pale(int i) {
        return now.row.has(i) ? now.row.at(i) : BAD;
    }

    public int type(long w, int n) {
        if (n < 1 || n > 8) {
            return BAD;
        }
        for (int k = 0; k < n; k++) {
            int b = byteOf(w, k);
            if (b < FIRST_BYTE || b > LAST_BYTE) {
                return BAD;
            }
        }
        if (tape.size > MOST_TAPE - n) {
            return FULL;
        }
        for (int k = n - 1; k >= 0; k--) {
            tape.add(byteOf(w, k));
        }
        return tape.size;
    }

    /** The k-th byte of w, the lowest one being the 0th. */
    private static int byteOf(long w, int k) {
        return (int) (w >> 8 * k) & 255;
    }

    public int fence() {
        int answer = readText();
        tape.size = 0;
        if (answer >= 0) {
            now.row.takeFrom(work, work.size);
        }
        return answer;
    }

    /** Reads the tape into the work row: how many pales, or the fault of the text. */
    private int readText() {
        work.size = 0;
        for (int i = 0; i < tape.size; i++) {
            int b = tape.at(i);
            if (b != BLANK) {
                int colour = LETTERS.indexOf((char) b);
                if (!now.rules.hasColour(colour) || work.size >= MOST_PALES) {
                    return TEXT_FAULT - i;
                }
                work.add(colour);
            }
        }
        return work.size;
    }

    public int count(int what) {
        if (what < 0 || what >= 2 + MOST_COLOURS) {
            return BAD;
        }
        if (what == 0) {
            return now.row.size;
        }
        int sum = 0;
        for (int i = 0; i < now.row.size; i++) {
            int colour = now.row.at(i);
            if (what == 1) {
                sum += now.rules.priceOf(colour);
            } else if (colour == what - 2) {
                sum++;
            }
        }
        return sum;
    }

    // ---- 2 how far

    public int fault(int what) {
        if (what != 0 && what != 1) {
            return BAD;
        }
        int pales = now.rules.faultOf(now.row);
        if (pales == 0) {
            return NONE;
        }
        return what == 0 ? pales : now.rules.stretchAtEnd(now.row, 0, pales);
    }

    public int may() {
        return openBehind(now.row.size);
    }

    /** MAY of the row of the first n pales. */
    private int openBehind(int n) {
        work.takeFrom(now.row, n);
        if (now.rules.faultOf(work) != 0) {
            return 0;
        }
        int set = 0;
        for (int c = 0; c < now.rules.colours; c++) {
            if (now.rules.standsWith(work, c)) {
                set |= 1 << c;
            }
            work.cut(1);
        }
        return set;
    }

    public int kind(int i) {
        if (!now.row.has(i)) {
            return BAD;
        }
        int pales = now.rules.faultOf(now.row);
        if (pales != 0 && pales <= i + 1) {
            return DOUBLED;
        }
        if (openBehind(i + 1) == 0) {
            return LAST;
        }
        return Integer.bitCount(openBehind(i)) > 1 ? FREE : FORCED;
    }

    public int far(int n) {
        return n < 0 || n > MOST_FAR ? BAD : goBehind(now.row.size, n);
    }

    public int go(int n, int i) {
        if (n < 1 || n > MOST_FAR || i < 0) {
            return BAD;
        }
        return i < goBehind(now.row.size, n) ? found.at(now.row.size + i) : NONE;
    }

    /**
     * How many pales, n at most, can be painted behind the first ones that are left; the found row
     * is what is left and the first row of so many behind it.
     */
    private int goBehind(int left, int n) {
        work.takeFrom(now.row, left);
        found.takeFrom(now.row, left);
        if (now.rules.faultOf(work) == 0) {
            goOn(now.rules, work, n, found);
        }
        return found.size - left;
    }

    /**
     * Whether so many more can be painted behind a lawful row. The longest row met is kept, the
     * first of its length, as colours are tried from the least on.
     */
    private static boolean goOn(Rules rules, Row row, int more, Row longest) {
        if (row.size > longest.size) {
            longest.takeFrom(row, row.size);
        }
        if (more <= 0) {
            return true;
        }
        boolean there = false;
        for (int c = 0; c < rules.colours && !there; c++) {
            there = rules.standsWith(row, c) && goOn(rules, row, more - 1, longest);
            row.cut(1);
        }
        return there;
    }

    public int less(int n) {
        if (n < 1 || n > MOST_SCRAPED) {
            return BAD;
        }
        int most = Math.min(MOST_SCRAPED, now.row.size);
        for (int k = 0; k <= most; k++) {
            if (goBehind(now.row.size - k, k + n) == k + n) {
                return k;
            }
        }
        return NONE;
    }

    public int many(int n) {
        if (n < 0 || n > MOST_MANY) {
            return BAD;
        }
        work.size = 0;
        return rowsBehind(now.rules, work, n, 0, false);
    }

    public int rings(int n) {
        if (n < 1 || n > MOST_RING) {
            return BAD;
        }
        work.size = 0;
        return rowsBehind(now.rules, work, n, 0, true);
    }

    /**
     * How many rows (round: rings) begin with a lawful row in which the colours below used stand,
     * and have so many more pales. No law tells colours apart, so the least colour not used yet
     * stands for all of those.
     */
    private static int rowsBehind(Rules rules, Row row, int more, int used, boolean round) {
        if (more <= 0) {
            return !round || rules.isRing(row) ? 1 : 0;
        }
        int sum = 0;
        int tried = Math.min(used + 1, rules.colours);
        for (int c = 0; c < tried; c++) {
            if (rules.standsWith(row, c)) {
                int alike = c < used ? 1 : rules.colours - used;
                sum += alike * rowsBehind(rules, row, more - 1, Math.max(used, c + 1), round);
            }
            row.cut(1);
        }
        return sum;
    }

    public int ring(int n, int i) {
        if (n < 1 || n > MOST_RING || i < 0 || i >= n) {
            return BAD;
        }
        work.size = 0;
        found.size = 0;
        return findRing(now.rules, work, n, 0, found) ? found.at(i) : NONE;
    }

    /**
     * Finds the first ring that begins with a lawful row in which the colours below used stand. As
     * no law tells colours apart, the first ring of all takes up no colour ahead of a lesser one.
     */
    private static boolean findRing(Rules rules, Row row, int more, int used, Row first) {
        if (more <= 0) {
            first.takeFrom(row, row.size);
            return rules.isRing(row);
        }
        boolean there = false;
        int tried = Math.min(used + 1, rules.colours);
        for (int c = 0; c < tried && !there; c++) {
            there = rules.standsWith(row, c)
                && findRing(rules, row, more - 1, Math.max(used, c + 1), first);
            row.cut(1);
        }
        return there;
    }

    public int cheap(int n, int i) {
        if (n < 1 || n > MOST_RING || i < -1 || i >= n) {
            return BAD;
        }
        work.size = 0;
        found.size = 0;
        int beyond = MOST_PRICE * n + 1;
        int sum = cheapest(now.rules, work, n, 0, beyond, found);
        if (sum == beyond) {
            return NONE;
        }
        return i < 0 ? sum : found.at(i);
    }

    /**
     * The least prices of a row that begins with this lawful one, for which so much is spent, and
     * has so many more pales, if they are below the bound; the bound, if none is. A row that
     * costs no less than one found before does not take its place, so the first of like ones stays.
     */
    private static int cheapest(Rules rules, Row row, int more, int spent, int bound, Row best) {
        if (spent + more * rules.leastPrice() >= bound) {
            return bound;
        }
        if (more <= 0) {
            best.takeFrom(row, row.size);
            return spent;
        }
        int sum = bound;
        for (int c = 0; c < rules.colours; c++) {
            if (rules.standsWith(row, c)) {
                sum = cheapest(rules, row, more - 1, spent + rules.priceOf(c), sum, best);
            }
            row.cut(1);
        }
        return sum;
    }

    public int wins(int n) {
        if (n < 0 || n > MOST_TURNS) {
            return BAD;
        }
        if (now.rules.faultOf(now.row) != 0) {
            return NOT;
        }
        work.takeFrom(now.row, now.row.size);
        if (canWin(now.rules, work, n)) {
            return 1;
        }
        return isLost(now.rules, work, n) ? 0 : 2;
    }

    /**
     * Whether who paints now can see to it that the other one is stuck, so many more pales being
     * painted at most. The row is lawful.
     */
    private static boolean canWin(Rules rules, Row row, int more) {
        if (more <= 0) {
            return false;
        }
        boolean wins = false;
        for (int c = 0; c < rules.colours && !wins; c++) {
            wins = rules.standsWith(row, c) && isLost(rules, row, more - 1);
            row.cut(1);
        }
        return wins;
    }

    /**
     * Whether the other one can see to it that who paints now is stuck, so many more pales being
     * painted at most. The row is lawful.
     */
    private static boolean isLost(Rules rules, Row row, int more) {
        if (more < 0) {
            return false;
        }
        boolean stuck = true;
        for (int c = 0; c < rules.colours && stuck; c++) {
            stuck = !rules.standsWith(row, c) || canWin(rules, row, more - 1);
            row.cut(1);
        }
        return stuck;
    }

    // ---- 3 torn, storms, lots

    public int tear(int i) {
        if (!now.row.has(i)) {
            return BAD;
        }
        now.row.takeOut(i);
        return now.rules.faultOf(now.row) == 0 ? 1 : 0;
    }

    public int mends(int i) {
        if (!now.row.has(i)) {
            return BAD;
        }
        work.takeFrom(now.row, now.row.size);
        int set = 0;
        for (int c = 0; c < now.rules.colours; c++) {
            work.put(i, c);
            if (now.rules.faultOf(work) == 0) {
                set |= 1 << c;
            }
        }
        return set;
    }

    public int replace(int i, int colour) {
        if (!now.row.has(i) || !now.rules.hasColour(colour)) {
            return BAD;
        }
        int was = now.row.at(i);
        now.row.put(i, colour);
        return was;
    }

    public int lots(int n) {
        if (n < 1 || n > MOST_PALES) {
            return BAD;
        }
        if (now.row.size > MOST_PALES - n) {
            return FULL;
        }
        int painted = 0;
        int open = openBehind(now.row.size);
        while (painted < n && open != 0) {
            now.draw = now.draw * 1103515245 + 12345 & LOWEST_31_BITS;
            now.row.add(drawn(open, now.draw / 65536));
            painted++;
            open = openBehind(now.row.size);
        }
        return painted;
    }

    /**
     * The colour of a set that as many of it lie ahead of as is the lot, as a remainder by how
     * many there are.
     */
    private static int drawn(int set, int lot) {
        int many = Integer.bitCount(set);
        int ahead = many == 0 ? 0 : lot % many;
        for (int c = 0; c < MOST_COLOURS; c++) {
            if ((set >> c & 1) != 0) {
                if (ahead == 0) {
                    return c;
                }
                ahead--;
            }
        }
        return 0;
    }

    public int seed(int v) {
        if (v < 0) {
            return BAD;
        }
        int was = now.draw;
        now.draw = v;
        return was;
    }

    public int image() {
        kept.takeFrom(now);
        hasImage = true;
        return 1;
    }

    public int restore() {
        if (!hasImage) {
            return NONE;
        }
        now.takeFrom(kept);
        return 1;
    }

    // ---- 4 sheets

    public int storm(int sheet, int lane, int from, int n, int i) {
        if (n < 1 || n > MOST_LOST || i < -1 || i >= n) {
            return BAD;
        }
        Sheet page = pageAt(sheet);
        int refusal = refusalOf(page, lane, from, n);
        if (page == null || refusal != 0) {
            return refusal;
        }
        if (!readLost(page, from, n)) {
            return NOT;
        }
        work.takeFrom(now.row, now.row.size);
        found.size = 0;
        int ways = now.rules.holds(work, 0, lost[0]) ? waysToMend(now.rules, work, lost, n, 0, found) : 0;
        if (i < 0) {
            return ways;
        }
        return ways == 0 ? NONE : found.at(lost[i]);
    }

    /** Reads which pales are lost: whether they are numbers of pales that rise. */
    private boolean readLost(Sheet page, int from, int n) {
        int before = -1;
        for (int k = 0; k < n && k < lost.length; k++) {
            int pale = page.at(from + k);
            if (pale <= before || !now.row.has(pale)) {
                return false;
            }
            lost[k] = pale;
            before = pale;
        }
        return true;
    }

    /**
     * In how many ways the lost pales from the k-th on can be painted, those ahead of it being
     * painted and what stands ahead of it being lawful; the first row so mended is kept.
     */
    private static int waysToMend(Rules rules, Row row, int[] lost, int n, int k, Row first) {
        if (k >= n || k >= lost.length) {
            if (first.size == 0) {
                first.takeFrom(row, row.size);
            }
            return 1;
        }
        int next = k + 1 < n && k + 1 < lost.length ? lost[k + 1] : row.size;
        int sum = 0;
        for (int c = 0; c < rules.colours; c++) {
            row.put(lost[k], c);
            if (rules.holds(row, lost[k], next)) {
                sum += waysToMend(rules, row, lost, n, k + 1, first);
            }
        }
        return sum;
    }

    public int build(int sheet, int lane, int from, int n) {
        if (n < 0 || n > MOST_PALES) {
            return BAD;
        }
        Sheet page = pageAt(sheet);
        int refusal = refusalOf(page, lane, from, n);
        if (page == null || refusal != 0) {
            return refusal;
        }
        work.size = 0;
        for (int k = 0; k < n; k++) {
            int colour = page.at(from + k);
            if (!now.rules.hasColour(colour)) {
                return NOT;
            }
            work.add(colour);
        }
        now.row.takeFrom(work, n);
        return n;
    }

    public int film(int sheet, int lane, int from) {
        Sheet page = pageAt(sheet);
        int refusal = refusalOf(page, lane, from, now.row.size);
        if (page == null || refusal != 0) {
            return refusal;
        }
        for (int k = 0; k < now.row.size; k++) {
            page.put(from + k, now.row.at(k));
        }
        return now.row.size;
    }

    public int sheet(int sheet, int lane, int n) {
        Sheet page = pageAt(sheet);
        if (page == null || !isLane(lane) || n > MOST_PALES) {
            return BAD;
        }
        if (n < 0) {
            return SIZE;
        }
        page.renew(lane, n);
        return n;
    }

    public int drop(int sheet) {
        Sheet page = pageAt(sheet);
        if (page == null) {
            return BAD;
        }
        if (page.length == NOTHING) {
            return NULL;
        }
        int had = page.length;
        page.length = NOTHING;
        return had;
    }

    public int item(int sheet, int lane, int i, int v) {
        Sheet page = pageAt(sheet);
        int refusal = refusalOf(page, lane, i, 1);
        if (page == null || refusal != 0) {
            return refusal;
        }
        page.put(i, v);
        return 1;
    }

    public int copy(int from, int i, int to, int j, int n) {
        Sheet source = pageAt(from);
        Sheet target = pageAt(to);
        if (source == null || target == null) {
            return BAD;
        }
        if (source.length == NOTHING || target.length == NOTHING) {
            return NULL;
        }
        if (source.lane != target.lane) {
            return CAST;
        }
        if (!source.reaches(i, n) || !target.reaches(j, n)) {
            return INDEX;
        }
        System.arraycopy(source.items, i, target.items, j, n);
        return n;
    }

    /**
     * What stands against taking so many items of a sheet, as a row of a lane, from one on: BAD,
     * NULL, CAST, INDEX; 0: nothing does.
     */
    private static int refusalOf(Sheet page, int lane, int from, int n) {
        if (page == null || !isLane(lane)) {
            return BAD;
        }
        if (page.length == NOTHING) {
            return NULL;
        }
        if (page.lane != lane) {
            return CAST;
        }
        return page.reaches(from, n) ? 0 : INDEX;
    }

    private Sheet pageAt(int number) {
        return number >= 0 && number < sheets.length ? sheets[number] : null;
    }

    private static boolean isLane(int lane) {
        return lane >= BYTES && lane <= INTS;
    }

    /** Colours of pales, one behind the other. */
    private static final class Row {
        private final int[] pales = new int[ROOM];
        private int size;

        private boolean has(int i) {
            return i >= 0 && i < size;
        }

        private int at(int i) {
            return i >= 0 && i < pales.length ? pales[i] : 0;
        }

        private void put(int i, int colour) {
            if (i >= 0 && i < pales.length) {
                pales[i] = colour;
            }
        }

        private void add(int colour) {
            if (size >= 0 && size < pales.length) {
                pales[size] = colour;
                size++;
            }
        }

        private void cut(int n) {
            size = Math.max(0, size - n);
        }

        private void takeOut(int i) {
            if (!has(i)) {
                return;
            }
            for (int k = i; k + 1 < size; k++) {
                put(k, at(k + 1));
            }
            size--;
        }

        private void takeFrom(Row other, int n) {
            size = Math.max(0, Math.min(n, other.size));
            System.arraycopy(other.pales, 0, pales, 0, size);
        }

        /**
         * Whether a stretch of so many pales comes so many times, one behind the other, the last
         * time just ahead of the pale at `to`. There are so many pales ahead of it.
         */
        private boolean repeats(int stretch, int times, int to) {
            int second = to - (times - 1) * stretch;
            for (int i = to - 1; i >= second; i--) {
                if (at(i) != at(i - stretch)) {
                    return false;
                }
            }
            return true;
        }
    }

    /** How many colours there are, their prices, and the law. */
    private static final class Rules {
        private int colours = 3;
        private int law = TWICE;
        private int least = 2;
        private final int[] prices = {1, 1, 1, 1};

        private boolean hasColour(int colour) {
            return colour >= 0 && colour < colours;
        }

        private int priceOf(int colour) {
            return colour >= 0 && colour < prices.length ? prices[colour] : 0;
        }

        private void setPrice(int colour, int v) {
            if (colour >= 0 && colour < prices.length) {
                prices[colour] = v;
            }
        }

        private int leastPrice() {
            int price = MOST_PRICE;
            for (int c = 0; c < colours; c++) {
                price = Math.min(price, priceOf(c));
            }
            return price;
        }

        private void takeFrom(Rules other) {
            colours = other.colours;
            law = other.law;
            least = other.least;
            System.arraycopy(other.prices, 0, prices, 0, MOST_COLOURS);
        }

        /** The fewest pales from the first one on that are not lawful; 0: the row is lawful. */
        private int faultOf(Row row) {
            for (int n = 1; n <= row.size; n++) {
                if (stretchAtEnd(row, 0, n) != 0) {
                    return n;
                }
            }
            return 0;
        }

        /** Whether a row that is lawful by its first pales, so many as `from`, is so by as many as `to`. */
        private boolean holds(Row row, int from, int to) {
            for (int n = from + 1; n <= to; n++) {
                if (stretchAtEnd(row, 0, n) != 0) {
                    return false;
                }
            }
            return true;
        }

        /** Paints one pale more behind a lawful row: whether it is lawful then. */
        private boolean standsWith(Row row, int colour) {
            row.add(colour);
            return stretchAtEnd(row, 0, row.size) == 0;
        }

        /** Whether a lawful row is so from whatever pale it begins with. */
        private boolean isRing(Row row) {
            int n = row.size;
            for (int i = 0; i < n; i++) {
                row.add(row.at(i));
            }
            boolean lawful = true;
            for (int to = n; to < 2 * n && lawful; to++) {
                lawful = stretchAtEnd(row, to - n, to) == 0;
            }
            row.cut(n);
            return lawful;
        }

        /**
         * The pales of the shortest stretch that comes as the law forbids at the end of the row
         * from one pale on to ahead of another; 0: none does. If all shorter rows from there
         * on are lawful, this tells whether this one is.
         */
        private int stretchAtEnd(Row row, int from, int to) {
            if (law == ANY) {
                return mixedAtEnd(row, from, to);
            }
            int times = law == THRICE ? 3 : 2;
            int shortest = law == LONG ? least : 1;
            for (int stretch = shortest; stretch * times <= to - from; stretch++) {
                if (row.repeats(stretch, times, to)) {
                    return stretch;
                }
            }
            return 0;
        }

        /** As stretchAtEnd, of stretches with as many pales of each colour. */
        private static int mixedAtEnd(Row row, int from, int to) {
            long last = 0;
            long both = 0;
            for (int stretch = 1; stretch * 2 <= to - from; stretch++) {
                last += tally(row.at(to - stretch));
                both += tally(row.at(to - 2 * stretch + 1)) + tally(row.at(to - 2 * stretch));
                if (both == 2 * last) {
                    return stretch;
                }
            }
            return 0;
        }

        // Each colour is counted in 16 bits of its own; no row has so many pales that they run over.
        private static long tally(int colour) {
            return 1L << 16 * colour;
        }
    }

    /** All that an image keeps. */
    private static final class State {
        private final Row row = new Row();
        private final Rules rules = new Rules();
        private int draw = 1;

        private void takeFrom(State other) {
            row.takeFrom(other.row, other.row.size);
            rules.takeFrom(other.rules);
            draw = other.draw;
        }
    }

    /** Bytes typed that no fence has been read from yet. */
    private static final class Tape {
        private final int[] bytes = new int[MOST_TAPE];
        private int size;

        private int at(int i) {
            return i >= 0 && i < bytes.length ? bytes[i] : BLANK;
        }

        private void add(int b) {
            if (size >= 0 && size < bytes.length) {
                bytes[size] = b;
                size++;
            }
        }
    }

    /** Nothing, or a row of a lane; the numbers of each lane are kept as ints. */
    private static final class Sheet {
        private final int[] items = new int[MOST_PALES];
        private int lane;
        private int length = NOTHING;

        /** Whether there are so many items from one on. */
        private boolean reaches(int from, int n) {
            return from >= 0 && n >= 0 && n <= length && from <= length - n;
        }

        private int at(int i) {
            return i >= 0 && i < items.length ? items[i] : 0;
        }

        private void put(int i, int v) {
            if (i < 0 || i >= items.length) {
                return;
            }
            if (lane == BYTES) {
                items[i] = (byte) v;
            } else if (lane == SHORTS) {
                items[i] = (short) v;
            } else {
                items[i] = v;
            }
        }

        private void renew(int asLane, int n) {
            lane = asLane;
            length = n;
            for (int i = 0; i < items.length; i++) {
                items[i] = 0;
            }
        }
    }
}
