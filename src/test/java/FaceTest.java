import java.lang.reflect.Constructor;
import java.lang.reflect.Field;
import java.lang.reflect.Member;
import java.lang.reflect.Method;
import java.lang.reflect.Modifier;
import java.nio.charset.StandardCharsets;
import java.nio.file.Files;
import java.nio.file.Path;
import java.util.Arrays;
import java.util.HashSet;
import java.util.List;
import java.util.Set;
import java.util.TreeSet;
import java.util.regex.Matcher;
import java.util.regex.Pattern;

/**
 * The face that the document's code block shows, and what of LANGUAGE.md can be seen in the source.
 * Arguments: the source, the document.
 */
public final class FaceTest {
    private static final Pattern BLOCK = Pattern.compile("(?s)```java\\n(public final class PaleFence.*?)```");
    private static final Pattern CALL = Pattern.compile("public int (\\w+)\\((.*)\\);");
    private static final Pattern CONSTANT = Pattern.compile("\\b([A-Z]+) = (-?[0-9]+)");

    public static void main(String[] args) throws Exception {
        String document = Files.readString(Path.of(args.length > 1 ? args[1] : "../shared/DOC.md"), StandardCharsets.UTF_8);
        Matcher block = BLOCK.matcher(document);
        String face = block.find() ? block.group(1) : "";
        face(face);
        constants(face);
        inside();
        String source = args.length > 0 ? args[0] : "src/main/java/PaleFence.java";
        source(Files.readString(Path.of(source), StandardCharsets.US_ASCII));
        Check.end();
    }

    private static boolean isPrivate(Member m) {
        return Modifier.isPrivate(m.getModifiers()) || m.isSynthetic();
    }

    /** The calls of the document's code block, each with the types of its arguments. */
    private static Set<String> callsOf(String face) {
        Set<String> calls = new TreeSet<>();
        Matcher call = CALL.matcher(face);
        while (call.find()) {
            calls.add(call.group(1) + "(" + call.group(2).replaceAll(" \\w+(,|$)", "$1") + ")");
        }
        return calls;
    }

    private static void face(String face) {
        Check.part("rule 1");
        Set<String> told = callsOf(face);
        Check.due("the document's calls", told.size(), 34);
        Check.due("public and final", PaleFence.class.getModifiers(), Modifier.PUBLIC | Modifier.FINAL);
        Set<String> open = new TreeSet<>();
        Set<String> names = new HashSet<>();
        for (Method m : PaleFence.class.getDeclaredMethods()) {
            if (!isPrivate(m)) {
                String types = Arrays.toString(m.getParameterTypes());
                open.add(m.getName() + "(" + types.substring(1, types.length() - 1) + ")");
                names.add(m.getName());
                Check.due(m.getName(), m.getModifiers(), Modifier.PUBLIC);
                Check.holds(m.getName() + " answers an int", m.getReturnType() == int.class);
            }
        }
        Check.holds("the methods: " + open, open.equals(told));
        for (Class<?> c : PaleFence.class.getNestMembers()) {
            for (Method m : c.getDeclaredMethods()) {
                Check.holds("private " + m.getName() + " has a name of its own", !isPrivate(m) || !names.contains(m.getName()));
                Check.holds(m.getName() + " has at most 7 parameters", m.getParameterCount() <= 7);
            }
        }
        Constructor<?>[] made = PaleFence.class.getDeclaredConstructors();
        Check.due("constructors", made.length, 1);
        Check.due("its parameters", made[0].getParameterCount(), 0);
        Check.due("it is public", made[0].getModifiers(), Modifier.PUBLIC);
    }

    private static void constants(String face) throws Exception {
        int told = 0;
        Matcher constant = CONSTANT.matcher(face);
        while (constant.find()) {
            told++;
            Field f = PaleFence.class.getField(constant.group(1));
            Check.due(f.getName(), f.getInt(null), Integer.parseInt(constant.group(2)));
            Check.due(f.getName(), f.getModifiers(), Modifier.PUBLIC | Modifier.STATIC | Modifier.FINAL);
            Check.holds(f.getName() + " is an int", f.getType() == int.class);
        }
        int open = 0;
        for (Field f : PaleFence.class.getDeclaredFields()) {
            open += isPrivate(f) ? 0 : 1;
        }
        Check.due("the document's constants", told, 8);
        Check.due("open fields", open, told);
    }

    private static void inside() {
        Check.holds("at most 12 classes", PaleFence.class.getNestMembers().length <= 12);
        for (Class<?> c : PaleFence.class.getDeclaredClasses()) {
            int m = c.getModifiers();
            Check.holds(c + " is static", Modifier.isStatic(m));
            Check.holds(c + " is not public", !Modifier.isPublic(m) && !Modifier.isProtected(m));
        }
        for (Class<?> c : PaleFence.class.getNestMembers()) {
            int own = 0;
            for (Field f : c.getDeclaredFields()) {
                boolean isStatic = Modifier.isStatic(f.getModifiers());
                own += isStatic ? 0 : 1;
                Check.holds(f + " static and final", !isStatic || Modifier.isFinal(f.getModifiers()));
            }
            Check.holds(c + " has at most 20 fields", own <= 20);
        }
    }

    private static void source(String text) {
        Check.part("LANGUAGE.md");
        for (char c : text.toCharArray()) {
            if (c != '\n' && (c < 32 || c > 126)) {
                Check.holds("a sign of the source is " + (int) c, false);
            }
        }
        String code = text.replaceAll("(?s)/\\*.*?\\*/", "").replaceAll("//[^\n]*", "").replaceAll("\"[^\"\n]*\"", "\"\"");
        List<String> ruledOut = List.of("throw", "throws", "try", "catch", "finally", "synchronized", "assert", "import", "package",
            "volatile", "native", "goto", "Object", "System.out", "System.nanoTime", "System.currentTimeMillis", "Random", "Thread",
            "hashCode", "toString", "equals", "var", "transient");
        for (String word : ruledOut) {
            Check.holds("no '" + word + "'", !Pattern.compile("\\b" + Pattern.quote(word) + "\\b").matcher(code).find());
        }
        Check.holds("no lambda", !code.contains("->"));
        Check.holds("no method reference", !code.contains("::"));
        Check.holds("no endless loop", !code.contains("while (true)") && !code.contains("for (;;)"));
        Matcher library = Pattern.compile("\\b([A-Z][a-z]\\w*)\\.(\\w+)").matcher(code);
        Set<String> known = Set.of("Math.min", "Math.max", "Integer.bitCount", "System.arraycopy");
        while (library.find()) {
            Check.holds("library: " + library.group(), known.contains(library.group()));
        }
        methodsAreShort(code);
    }

    private static void methodsAreShort(String code) {
        String[] lines = code.split("\n");
        int begun = -1;
        for (int i = 0; i < lines.length; i++) {
            if (lines[i].matches(" {4,8}(public|private)[^=;]*\\(.*\\) \\{")) {
                begun = i;
            }
            if (begun >= 0 && lines[i].matches(" {4,8}\\}") && indent(lines[i]) == indent(lines[begun])) {
                Check.holds("the method at line " + begun + " is short", i - begun <= 60);
                begun = -1;
            }
        }
    }

    private static int indent(String line) {
        return line.length() - line.stripLeading().length();
    }
}
