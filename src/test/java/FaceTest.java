import java.lang.reflect.Constructor;
import java.lang.reflect.Field;
import java.lang.reflect.Member;
import java.lang.reflect.Method;
import java.lang.reflect.Modifier;
import java.nio.charset.StandardCharsets;
import java.nio.file.Files;
import java.nio.file.Path;
import java.util.Arrays;
import java.util.HashSet;
import java.util.List;
import java.util.Set;
import java.util.TreeSet;
import java.util.regex.Matcher;
import java.util.regex.Pattern;

/** The face of the document, and what of LANGUAGE.md can be seen in the source. Argument: the source. */
public final class FaceTest {
    private static final String[] FACE = {
        "colours(int)", "price(int, int)", "rule(int, int)", "paint(int)", "scrape(int)", "pale(int)", "type(long, int)", "fence()",
        "count(int)", "fault(int)", "may()", "kind(int)", "far(int)", "go(int, int)", "less(int)", "many(int)", "rings(int)",
        "ring(int, int)", "cheap(int, int)", "wins(int)", "tear(int)", "mends(int)", "replace(int, int)", "lots(int)", "seed(int)",
        "image()", "restore()", "storm(int, int, int, int, int)", "build(int, int, int, int)", "film(int, int, int)",
        "sheet(int, int, int)", "drop(int)", "item(int, int, int, int)", "copy(int, int, int, int, int)"};

    public static void main(String[] args) throws Exception {
        face();
        constants();
        inside();
        source(Files.readString(Path.of(args[0]), StandardCharsets.US_ASCII));
        Check.end();
    }

    private static boolean isPrivate(Member m) {
        return Modifier.isPrivate(m.getModifiers()) || m.isSynthetic();
    }

    private static void face() {
        Check.part("rule 1");
        Check.due("public and final", PaleFence.class.getModifiers(), Modifier.PUBLIC | Modifier.FINAL);
        Set<String> open = new TreeSet<>();
        Set<String> names = new HashSet<>();
        for (Method m : PaleFence.class.getDeclaredMethods()) {
            if (!isPrivate(m)) {
                String types = Arrays.toString(m.getParameterTypes());
                open.add(m.getName() + "(" + types.substring(1, types.length() - 1) + ")");
                names.add(m.getName());
                Check.due(m.getName(), m.getModifiers(), Modifier.PUBLIC);
                Check.holds(m.getName() + " answers an int", m.getReturnType() == int.class);
            }
        }
        Check.holds("the methods: " + open, open.equals(new TreeSet<>(Arrays.asList(FACE))));
        for (Class<?> c : PaleFence.class.getNestMembers()) {
            for (Method m : c.getDeclaredMethods()) {
                Check.holds("private " + m.getName() + " has a name of its own", !isPrivate(m) || !names.contains(m.getName()));
                Check.holds(m.getName() + " has at most 7 parameters", m.getParameterCount() <= 7);
            }
        }
        Constructor<?>[] made = PaleFence.class.getDeclaredConstructors();
        Check.due("constructors", made.length, 1);
        Check.due("its parameters", made[0].getParameterCount(), 0);
        Check.due("it is public", made[0].getModifiers(), Modifier.PUBLIC);
    }

    private static void constants() throws Exception {
        String[] names = {"BAD", "NOT", "FULL", "NONE", "NULL", "CAST", "INDEX", "SIZE"};
        int[] values = {-1, -2, -3, -4, -11, -12, -13, -14};
        for (int k = 0; k < names.length; k++) {
            Field f = PaleFence.class.getField(names[k]);
            Check.due(names[k], f.getInt(null), values[k]);
            Check.due(names[k], f.getModifiers(), Modifier.PUBLIC | Modifier.STATIC | Modifier.FINAL);
        }
        int open = 0;
        for (Field f : PaleFence.class.getDeclaredFields()) {
            open += isPrivate(f) ? 0 : 1;
        }
        Check.due("open fields", open, names.length);
    }

    private static void inside() {
        Check.holds("at most 12 classes", PaleFence.class.getNestMembers().length <= 12);
        for (Class<?> c : PaleFence.class.getDeclaredClasses()) {
            int m = c.getModifiers();
            Check.holds(c + " is static", Modifier.isStatic(m));
            Check.holds(c + " is not public", !Modifier.isPublic(m) && !Modifier.isProtected(m));
        }
        for (Class<?> c : PaleFence.class.getNestMembers()) {
            int own = 0;
            for (Field f : c.getDeclaredFields()) {
                boolean isStatic = Modifier.isStatic(f.getModifiers());
                own += isStatic ? 0 : 1;
                Check.holds(f + " static and final", !isStatic || Modifier.isFinal(f.getModifiers()));
            }
            Check.holds(c + " has at most 20 fields", own <= 20);
        }
    }

    private static void source(String text) {
        Check.part("LANGUAGE.md");
        for (char c : text.toCharArray()) {
            if (c != '\n' && (c < 32 || c > 126)) {
                Check.holds("a sign of the source is " + (int) c, false);
            }
        }
        String code = text.replaceAll("(?s)/\\*.*?\\*/", "").replaceAll("//[^\n]*", "").replaceAll("\"[^\"\n]*\"", "\"\"");
        List<String> ruledOut = List.of("throw", "throws", "try", "catch", "finally", "synchronized", "assert", "import", "package",
            "volatile", "native", "goto", "Object", "System.out", "System.nanoTime", "System.currentTimeMillis", "Random", "Thread",
            "hashCode", "toString", "equals", "var", "transient");
        for (String word : ruledOut) {
            Check.holds("no '" + word + "'", !Pattern.compile("\\b" + Pattern.quote(word) + "\\b").matcher(code).find());
        }
        Check.holds("no lambda", !code.contains("->"));
        Check.holds("no method reference", !code.contains("::"));
        Check.holds("no endless loop", !code.contains("while (true)") && !code.contains("for (;;)"));
        Matcher library = Pattern.compile("\\b([A-Z][a-z]\\w*)\\.(\\w+)").matcher(code);
        Set<String> known = Set.of("Math.min", "Math.max", "Integer.bitCount", "Integer.MAX_VALUE", "System.arraycopy");
        while (library.find()) {
            Check.holds("library: " + library.group(), known.contains(library.group()));
        }
        methodsAreShort(code);
    }

    private static void methodsAreShort(String code) {
        String[] lines = code.split("\n");
        int begun = -1;
        for (int i = 0; i < lines.length; i++) {
            if (lines[i].matches(" {4,8}(public|private)[^=;]*\\(.*\\) \\{")) {
                begun = i;
            }
            if (begun >= 0 && lines[i].matches(" {4,8}\\}") && indent(lines[i]) == indent(lines[begun])) {
                Check.holds("the method at line " + begun + " is short", i - begun <= 60);
                begun = -1;
            }
        }
    }

    private static int indent(String line) {
        return line.length() - line.stripLeading().length();
    }
}
