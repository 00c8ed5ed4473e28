import java.util.ArrayList;
import java.util.HashMap;
import java.util.List;
import java.util.Map;

/**
 * The document once more, as plainly as it goes: rows are texts of digits, each question is put to
 * every row that there is, and a row is lawful if none of its stretches is what the law forbids.
 */
final class Model {
    private static final int BAD = -1, NOT = -2, FULL = -3, NONE = -4, NULL = -11, CAST = -12, INDEX = -13, SIZE = -14;
    private static final Map<String, List<String>> ROWS = new HashMap<>();

    private int colours = 3;
    private int law = 0;
    private int least = 2;
    private int[] prices = {1, 1, 1, 1};
    private String fence = "";
    private int draw = 1;
    private Object[] image = null;
    private String tape = "";
    private final Object[] sheets = new Object[4];

    // what the words mean

    private static boolean forbidden(int law, int least, String some) {
        int n = some.length();
        int times = law == 1 ? 3 : 2;
        if (n == 0 || n % times != 0) {
            return false;
        }
        int p = n / times;
        String stretch = some.substring(0, p);
        String next = some.substring(p, 2 * p);
        switch (law) {
            case 0: return stretch.equals(next);
            case 1: return stretch.equals(next) && next.equals(some.substring(2 * p));
            case 2: return sorted(stretch).equals(sorted(next));
            default: return p >= least && stretch.equals(next);
        }
    }

    private static String sorted(String some) {
        char[] signs = some.toCharArray();
        java.util.Arrays.sort(signs);
        return new String(signs);
    }

    private boolean endsBadly(String row) {
        return stretch(row) > 0;
    }

    private int stretch(String row) {
        for (int p = 1; p <= row.length(); p++) {
            int n = p * (law == 1 ? 3 : 2);
            if (n <= row.length() && forbidden(law, least, row.substring(row.length() - n))) {
                return p;
            }
        }
        return 0;
    }

    private int faultOf(String row) {
        for (int n = 1; n <= row.length(); n++) {
            if (endsBadly(row.substring(0, n))) {
                return n;
            }
        }
        return 0;
    }

    private boolean lawful(String row) {
        return faultOf(row) == 0;
    }

    private int mayOf(String row) {
        int set = 0;
        for (int c = 0; c < colours; c++) {
            if (lawful(row + c)) {
                set |= 1 << c;
            }
        }
        return set;
    }

    /** The first row of just n pales more behind a lawful one; null: none. */
    private String first(String row, int n) {
        if (n == 0) {
            return row;
        }
        for (int c = 0; c < colours; c++) {
            String next = row + c;
            if (!endsBadly(next)) {
                String there = first(next, n - 1);
                if (there != null) {
                    return there;
                }
            }
        }
        return null;
    }

    private String farthest(String row, int n) {
        for (int d = n; d > 0 && lawful(row); d--) {
            String there = first(row, d);
            if (there != null) {
                return there;
            }
        }
        return row;
    }

    private List<String> rowsOf(int n) {
        String key = colours + " " + law + " " + (law == 3 ? least : 0) + " " + n;
        List<String> rows = ROWS.get(key);
        if (rows == null) {
            rows = new ArrayList<>();
            if (n == 0) {
                rows.add("");
            } else {
                for (String row : rowsOf(n - 1)) {
                    for (int c = 0; c < colours; c++) {
                        if (!endsBadly(row + c)) {
                            rows.add(row + c);
                        }
                    }
                }
            }
            ROWS.put(key, rows);
        }
        return rows;
    }

    private List<String> ringsOf(int n) {
        String key = "rings " + colours + " " + law + " " + (law == 3 ? least : 0) + " " + n;
        List<String> rows = ROWS.get(key);
        if (rows == null) {
            rows = new ArrayList<>();
            for (String row : rowsOf(n)) {
                boolean round = true;
                for (int i = 1; i < n && round; i++) {
                    round = lawful(row.substring(i) + row.substring(0, i));
                }
                if (round) {
                    rows.add(row);
                }
            }
            ROWS.put(key, rows);
        }
        return rows;
    }

    /** 1: who is to paint wins, 0: loses, 2: neither, if at most n pales more are painted. */
    private int game(String row, int n) {
        boolean stuck = true;
        boolean neither = false;
        for (int c = 0; c < colours; c++) {
            if (!endsBadly(row + c)) {
                stuck = false;
                int other = n == 0 ? 2 : game(row + c, n - 1);
                if (other == 0) {
                    return 1;
                }
                neither |= other == 2;
            }
        }
        return stuck || !neither ? 0 : 2;
    }

    private int priceOf(String row) {
        int sum = 0;
        for (char c : row.toCharArray()) {
            sum += prices[c - '0'];
        }
        return sum;
    }

    private boolean isPale(int i) {
        return i >= 0 && i < fence.length();
    }

    private int at(String row, int i) {
        return row.charAt(i) - '0';
    }

    private static String with(String row, int i, int colour) {
        return row.substring(0, i) + colour + row.substring(i + 1);
    }

    // the calls

    int colours(int v) {
        if (v < 2 || v > 4) return BAD;
        for (char c : fence.toCharArray()) if (c - '0' >= v) return NOT;
        int was = colours;
        colours = v;
        return was;
    }

    int price(int colour, int v) {
        if (colour < 0 || colour > 3 || v < 0 || v > 99) return BAD;
        int was = prices[colour];
        prices[colour] = v;
        return was;
    }

    int rule(int what, int v) {
        int was = what == 0 ? law : least;
        if (what == 0 && v >= 0 && v <= 3) law = v;
        else if (what == 1 && v >= 1 && v <= 9) least = v;
        else return BAD;
        return was;
    }

    int paint(int colour) {
        if (colour < 0 || colour >= colours) return BAD;
        if (!lawful(fence + colour)) return NOT;
        if (fence.length() == 48) return FULL;
        fence += colour;
        return fence.length();
    }

    int scrape(int n) {
        if (n < 1 || n > 48) return BAD;
        if (n > fence.length()) return NOT;
        fence = fence.substring(0, fence.length() - n);
        return fence.length();
    }

    int pale(int i) {
        return isPale(i) ? at(fence, i) : BAD;
    }

    int type(long w, int n) {
        if (n < 1 || n > 8) return BAD;
        String more = "";
        for (int k = 0; k < n; k++) {
            long b = w >>> 8 * k & 255;
            if (b < 32 || b > 126) return BAD;
            more = (char) b + more;
        }
        if (tape.length() + n > 100) return FULL;
        tape += more;
        return tape.length();
    }

    int fence() {
        String text = tape;
        tape = "";
        String row = "";
        for (int i = 0; i < text.length(); i++) {
            if (text.charAt(i) == ' ') continue;
            int colour = "rwbg".substring(0, colours).indexOf(text.charAt(i));
            if (colour < 0 || row.length() == 48) return -20 - i;
            row += colour;
        }
        fence = row;
        return row.length();
    }

    int count(int what) {
        if (what < 0 || what > 5) return BAD;
        if (what == 0) return fence.length();
        if (what == 1) return priceOf(fence);
        return (int) fence.chars().filter(c -> c - '0' == what - 2).count();
    }

    int fault(int what) {
        if (what < 0 || what > 1) return BAD;
        if (lawful(fence)) return NONE;
        return what == 0 ? faultOf(fence) : stretch(fence.substring(0, faultOf(fence)));
    }

    int may() {
        return mayOf(fence);
    }

    int kind(int i) {
        if (!isPale(i)) return BAD;
        if (!lawful(fence.substring(0, i + 1))) return 2;
        if (mayOf(fence.substring(0, i + 1)) == 0) return 3;
        return Integer.bitCount(mayOf(fence.substring(0, i))) == 1 ? 1 : 0;
    }

    int far(int n) {
        return n < 0 || n > 16 ? BAD : farthest(fence, n).length() - fence.length();
    }

    int go(int n, int i) {
        if (n < 1 || n > 16 || i < 0) return BAD;
        String row = farthest(fence, n);
        return i < row.length() - fence.length() ? at(row, fence.length() + i) : NONE;
    }

    int less(int n) {
        if (n < 1 || n > 12) return BAD;
        for (int k = 0; k <= 12 && k <= fence.length(); k++) {
            String left = fence.substring(0, fence.length() - k);
            if (lawful(left) && first(left, k + n) != null) return k;
        }
        return NONE;
    }

    int many(int n) {
        return n < 0 || n > 9 ? BAD : rowsOf(n).size();
    }

    int rings(int n) {
        return n < 1 || n > 8 ? BAD : ringsOf(n).size();
    }

    int ring(int n, int i) {
        if (n < 1 || n > 8 || i < 0 || i >= n) return BAD;
        return ringsOf(n).isEmpty() ? NONE : at(ringsOf(n).get(0), i);
    }

    int cheap(int n, int i) {
        if (n < 1 || n > 8 || i < -1 || i >= n) return BAD;
        String best = null;
        for (String row : rowsOf(n)) {
            if (best == null || priceOf(row) < priceOf(best)) best = row;
        }
        if (best == null) return NONE;
        return i == -1 ? priceOf(best) : at(best, i);
    }

    int wins(int n) {
        if (n < 0 || n > 8) return BAD;
        return lawful(fence) ? game(fence, n) : NOT;
    }

    int tear(int i) {
        if (!isPale(i)) return BAD;
        fence = fence.substring(0, i) + fence.substring(i + 1);
        return lawful(fence) ? 1 : 0;
    }

    int mends(int i) {
        if (!isPale(i)) return BAD;
        int set = 0;
        for (int c = 0; c < colours; c++) if (lawful(with(fence, i, c))) set |= 1 << c;
        return set;
    }

    int replace(int i, int colour) {
        if (!isPale(i) || colour < 0 || colour >= colours) return BAD;
        int was = at(fence, i);
        fence = with(fence, i, colour);
        return was;
    }

    int lots(int n) {
        if (n < 1 || n > 48) return BAD;
        if (fence.length() + n > 48) return FULL;
        for (int k = 0; k < n; k++) {
            List<Integer> open = new ArrayList<>();
            for (int c = 0; c < colours; c++) if (lawful(fence + c)) open.add(c);
            if (open.isEmpty()) return k;
            java.math.BigInteger big = java.math.BigInteger.valueOf(draw)
                .multiply(java.math.BigInteger.valueOf(1103515245)).add(java.math.BigInteger.valueOf(12345));
            draw = big.mod(java.math.BigInteger.TWO.pow(31)).intValueExact();
            fence += open.get(draw / 65536 % open.size());
        }
        return n;
    }

    int seed(int v) {
        if (v < 0) return BAD;
        int was = draw;
        draw = v;
        return was;
    }

    int image() {
        image = new Object[] {colours, law, least, prices.clone(), fence, draw};
        return 1;
    }

    int restore() {
        if (image == null) return NONE;
        colours = (Integer) image[0];
        law = (Integer) image[1];
        least = (Integer) image[2];
        prices = ((int[]) image[3]).clone();
        fence = (String) image[4];
        draw = (Integer) image[5];
        return 1;
    }

    private int refused(int sheet, int lane, int from, int n) {
        if (sheet < 0 || sheet > 3 || lane < 0 || lane > 2) return BAD;
        if (sheets[sheet] == null) return NULL;
        if (lane(sheet) != lane) return CAST;
        return from < 0 || (long) from + n > length(sheet) ? INDEX : 0;
    }

    private int lane(int sheet) {
        return sheets[sheet] instanceof byte[] ? 0 : sheets[sheet] instanceof short[] ? 1 : 2;
    }

    private int length(int sheet) {
        Object row = sheets[sheet];
        if (row instanceof byte[]) return ((byte[]) row).length;
        if (row instanceof short[]) return ((short[]) row).length;
        return ((int[]) row).length;
    }

    private int read(int sheet, int i) {
        Object row = sheets[sheet];
        if (row instanceof byte[]) return ((byte[]) row)[i];
        if (row instanceof short[]) return ((short[]) row)[i];
        return ((int[]) row)[i];
    }

    private void write(int sheet, int i, int v) {
        Object row = sheets[sheet];
        if (row instanceof byte[]) ((byte[]) row)[i] = (byte) v;
        else if (row instanceof short[]) ((short[]) row)[i] = (short) v;
        else ((int[]) row)[i] = v;
    }

    int storm(int sheet, int lane, int from, int n, int i) {
        if (n < 1 || n > 4 || i < -1 || i >= n) return BAD;
        int refused = refused(sheet, lane, from, n);
        if (refused != 0) return refused;
        for (int k = 0; k < n; k++) {
            if (!isPale(read(sheet, from + k))) return NOT;
            if (k > 0 && read(sheet, from + k) <= read(sheet, from + k - 1)) return NOT;
        }
        int all = 1;
        for (int k = 0; k < n; k++) all *= colours;
        int ways = 0;
        String first = null;
        for (int way = 0; way < all; way++) {
            String row = fence;
            int rest = way;
            for (int k = n - 1; k >= 0; k--) {
                row = with(row, read(sheet, from + k), rest % colours);
                rest /= colours;
            }
            if (lawful(row)) {
                ways++;
                if (first == null) first = row;
            }
        }
        if (i == -1) return ways;
        return first == null ? NONE : at(first, read(sheet, from + i));
    }

    int build(int sheet, int lane, int from, int n) {
        if (n < 0 || n > 48) return BAD;
        int refused = refused(sheet, lane, from, n);
        if (refused != 0) return refused;
        String row = "";
        for (int k = 0; k < n; k++) {
            int colour = read(sheet, from + k);
            if (colour < 0 || colour >= colours) return NOT;
            row += colour;
        }
        fence = row;
        return n;
    }

    int film(int sheet, int lane, int from) {
        int refused = refused(sheet, lane, from, fence.length());
        if (refused != 0) return refused;
        for (int k = 0; k < fence.length(); k++) write(sheet, from + k, at(fence, k));
        return fence.length();
    }

    int sheet(int sheet, int lane, int n) {
        if (sheet < 0 || sheet > 3 || lane < 0 || lane > 2 || n > 48) return BAD;
        if (n < 0) return SIZE;
        sheets[sheet] = lane == 0 ? new byte[n] : lane == 1 ? new short[n] : new int[n];
        return n;
    }

    int drop(int sheet) {
        if (sheet < 0 || sheet > 3) return BAD;
        if (sheets[sheet] == null) return NULL;
        int had = length(sheet);
        sheets[sheet] = null;
        return had;
    }

    int item(int sheet, int lane, int i, int v) {
        int refused = refused(sheet, lane, i, 1);
        if (refused != 0) return refused;
        write(sheet, i, v);
        return 1;
    }

    int copy(int from, int i, int to, int j, int n) {
        if (from < 0 || from > 3 || to < 0 || to > 3) return BAD;
        if (sheets[from] == null || sheets[to] == null) return NULL;
        if (lane(from) != lane(to)) return CAST;
        if (n < 0 || i < 0 || (long) i + n > length(from) || j < 0 || (long) j + n > length(to)) return INDEX;
        int[] ahead = new int[n];
        for (int k = 0; k < n; k++) ahead[k] = read(from, i + k);
        for (int k = 0; k < n; k++) write(to, j + k, ahead[k]);
        return n;
    }
}
