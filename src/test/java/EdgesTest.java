import java.lang.reflect.InvocationTargetException;
import java.lang.reflect.Method;
import java.lang.reflect.Modifier;
import java.nio.charset.StandardCharsets;
import java.nio.file.Files;
import java.nio.file.Path;
import java.util.ArrayList;
import java.util.Comparator;
import java.util.List;
import java.util.Map;
import java.util.TreeMap;
import java.util.regex.Matcher;
import java.util.regex.Pattern;

/**
 * Runs the tests of boundary cases, looks whether what they quote stands in the document, and whether
 * all of the document that names such a case is quoted. Arguments: the source, the document.
 */
public final class EdgesTest {
    private static final Class<?>[] TESTS = {EdgesAhead.class, EdgesTerms.class, EdgesFences.class, EdgesFar.class, EdgesTorn.class, EdgesSheets.class};
    private static final int PROMISES = 35;

    // What a sentence that names a boundary case has: a refusal, a number, or such a word.
    private static final Pattern NAMES_A_CASE = Pattern.compile(
        "\\b(BAD|NOT|FULL|NONE|NULL|CAST|INDEX|SIZE|[0-9]+|none|[Nn]o PALE|nothing|empty|nowhere|whatever|alone|at most|missing|not so)\\b");

    public static void main(String[] args) throws Exception {
        List<Method> edges = edges();
        for (Method edge : edges) {
            run(edge);
        }
        String document = args.length > 1 ? args[1] : "../shared/DOC.md";
        quotes(edges, sections(Files.readString(Path.of(document), StandardCharsets.UTF_8)));
        System.out.println(edges.size() + " tests of boundary cases");
        Check.end();
    }

    private static List<Method> edges() {
        List<Method> edges = new ArrayList<>();
        for (Class<?> tests : TESTS) {
            for (Method m : tests.getDeclaredMethods()) {
                if (!Modifier.isPrivate(m.getModifiers()) && !m.isSynthetic()) {
                    Check.holds(m + " has a sentence", m.isAnnotationPresent(Edge.class));
                    edges.add(m);
                }
            }
        }
        edges.removeIf(m -> !m.isAnnotationPresent(Edge.class));
        edges.sort(Comparator.comparing((Method m) -> m.getDeclaringClass().getName()).thenComparing(Method::getName));
        return edges;
    }

    private static void run(Method edge) throws IllegalAccessException {
        Edge held = edge.getAnnotation(Edge.class);
        Check.part(edge.getName() + ", promise " + held.promise()[0] + " '" + held.says() + "'");
        int asked = Check.asked();
        try {
            edge.invoke(null);
        } catch (InvocationTargetException e) {
            e.getCause().printStackTrace(System.out);
            Check.holds("it ends", false);
        }
        Check.holds("it asks", Check.asked() > asked);
    }

    /** The text of each part of the document by its heading, that of a promise by 'Promise' and its number. */
    private static Map<String, String> sections(String document) {
        Map<String, String> sections = new TreeMap<>();
        for (String section : document.split("(?m)^## ")) {
            int end = section.indexOf('\n');
            if (end > 0) {
                String text = section.substring(end).replaceAll("(====|----) [0-9]", "").replaceAll("\\s+", " ");
                sections.put(section.substring(0, end).replaceAll(":.*", "").trim(), text);
            }
        }
        return sections;
    }

    private static void quotes(List<Method> edges, Map<String, String> sections) {
        Check.part("quotes");
        Map<String, boolean[]> quoted = new TreeMap<>();
        for (int promise = 1; promise <= PROMISES; promise++) {
            quoted.put("Promise " + promise, null);
        }
        for (String part : List.of("What it is", "The public face", "Terms")) {
            quoted.put(part, null);
        }
        quoted.replaceAll((part, none) -> new boolean[sections.getOrDefault(part, "").length()]);
        for (Method edge : edges) {
            Edge held = edge.getAnnotation(Edge.class);
            String part = held.part().isEmpty() ? "Promise " + held.promise()[0] : held.part();
            int at = sections.getOrDefault(part, "").indexOf(held.says());
            Check.holds(edge.getName() + ": '" + held.says() + "' stands in " + part, at >= 0 && quoted.containsKey(part));
            for (int i = at; i >= 0 && i < at + held.says().length(); i++) {
                quoted.get(part)[i] = true;
            }
        }
        quoted.forEach((part, marks) -> allIsQuoted(part, sections.getOrDefault(part, ""), marks));
    }

    private static void allIsQuoted(String part, String text, boolean[] quoted) {
        Matcher named = NAMES_A_CASE.matcher(text);
        while (named.find()) {
            String around = text.substring(Math.max(0, named.start() - 20), Math.min(text.length(), named.end() + 20));
            Check.holds(part + ": a test quotes '.." + around + "..'", quoted[named.start()] && quoted[named.end() - 1]);
        }
        boolean one = false;
        for (boolean mark : quoted) {
            one |= mark;
        }
        Check.holds(part + ": a test quotes it", one);
    }
}
