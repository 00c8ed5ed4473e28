/** What all tests of the project use: counts calls whose answer is not the one that is due. */
final class Check {
    private static int right = 0;
    private static int wrong = 0;
    private static String part = "";

    private Check() {
    }

    static void part(String name) {
        part = name;
    }

    static void due(String call, long got, long want) {
        if (got == want) {
            right++;
        } else {
            wrong++;
            System.out.println(part + ": " + call + " answered " + got + ", due is " + want);
        }
    }

    static void holds(String what, boolean so) {
        due(what, so ? 1 : 0, 1);
    }

    /** Ends the test: exit code 1 if an answer was wrong, or if nothing was asked. */
    static void end() {
        System.out.println(right + " answers as due, " + wrong + " not");
        if (wrong != 0 || right == 0) {
            System.exit(1);
        }
    }

    /** Types a text, eight bytes at a time: what the last call answered. */
    static int types(PaleFence x, String text) {
        int answer = 0;
        for (int i = 0; i < text.length(); i += 8) {
            String some = text.substring(i, Math.min(text.length(), i + 8));
            answer = x.type(word(some), some.length());
        }
        return answer;
    }

    static long word(String some) {
        long w = 0;
        for (char c : some.toCharArray()) {
            w = w << 8 | c;
        }
        return w;
    }

    /** Types a text and reads it as the fence. */
    static int reads(PaleFence x, String text) {
        types(x, text);
        return x.fence();
    }

    /** A new object with that fence. */
    static PaleFence fenced(String text) {
        PaleFence x = new PaleFence();
        reads(x, text);
        return x;
    }

    static PaleFence fenced(int colours, int law, int least, String text) {
        PaleFence x = new PaleFence();
        x.colours(colours);
        x.rule(0, law);
        x.rule(1, least);
        reads(x, text);
        return x;
    }

    /** The fence as letters. */
    static String shown(PaleFence x) {
        StringBuilder text = new StringBuilder();
        for (int i = 0; i < x.count(0); i++) {
            int colour = x.pale(i);
            text.append(colour >= 0 && colour < 4 ? "rwbg".charAt(colour) : '?');
        }
        return text.toString();
    }

    static void stands(PaleFence x, String text) {
        String is = shown(x);
        if (!is.equals(text)) {
            System.out.println(part + ": the fence is " + is + ", due is " + text);
        }
        due("the fence is as due", is.equals(text) ? 1 : 0, 1);
    }

    /** A row of n pales in which no stretch comes twice running. */
    static String squareFree(int n) {
        String row = "r";
        while (row.length() <= n) {
            StringBuilder next = new StringBuilder();
            for (char c : row.toCharArray()) {
                next.append(c == 'r' ? "rwb" : c == 'w' ? "rb" : "w");
            }
            row = next.toString();
        }
        return row.substring(0, n);
    }
}
