import java.lang.reflect.Method;
import java.lang.reflect.Modifier;
import java.nio.charset.StandardCharsets;
import java.nio.file.Files;
import java.nio.file.Path;
import java.util.ArrayList;
import java.util.HashMap;
import java.util.List;
import java.util.Map;
import java.util.Set;
import java.util.TreeMap;
import java.util.TreeSet;
import java.util.regex.Matcher;
import java.util.regex.Pattern;

/**
 * Whether README.md tells what the program does: each call that it shows is made and its answer
 * compared; its tables have each call and refusal as the document has them. Arguments: the source,
 * the document, README.md.
 */
public final class ReadmeTest {
    private static final List<String> REFUSALS = List.of("BAD", "NOT", "FULL", "NONE", "NULL", "CAST", "INDEX", "SIZE");

    private static final Pattern BLOCK = Pattern.compile("(?ms)^```java\\n(.*?)^```");
    private static final Pattern MADE = Pattern.compile("PaleFence (\\w+) = new PaleFence\\(\\);( +//.*)?");
    private static final Pattern ASKED = Pattern.compile("(\\w+)\\.(\\w+)\\((.*?)\\); +// (-?\\d+|[A-Z]+)(:.*)?");
    private static final Pattern ROW = Pattern.compile("(?m)^\\| `(\\w+)\\(([^)]*)\\)` \\|(.*)\\|([^|]*)\\|$");
    private static final Pattern REFUSAL_ROW = Pattern.compile("(?m)^\\| `([A-Z]+)` \\| (-?\\d+) \\|");
    private static final Pattern REFUSAL = Pattern.compile("\\b(" + String.join("|", REFUSALS) + ")\\b");
    private static final Pattern PROMISE = Pattern.compile("(?ms)^## Promise \\d+: (\\w+)\\n(.*?)(?=^## )");

    private static final Map<String, Method> CALLS = calls();

    public static void main(String[] args) throws Exception {
        String document = Files.readString(Path.of(args.length > 1 ? args[1] : "../shared/DOC.md"), StandardCharsets.UTF_8);
        String readme = Files.readString(Path.of(args.length > 2 ? args[2] : "README.md"), StandardCharsets.UTF_8);
        shownCalls(readme);
        tableOfCalls(readme, refusalsOf(document));
        tableOfRefusals(readme);
        filesNamed(readme);
        Check.end();
    }

    private static Map<String, Method> calls() {
        Map<String, Method> calls = new TreeMap<>();
        for (Method m : PaleFence.class.getDeclaredMethods()) {
            if (Modifier.isPublic(m.getModifiers())) {
                calls.put(m.getName(), m);
            }
        }
        return calls;
    }

    private static void shownCalls(String readme) throws Exception {
        Check.part("README.md, what it shows");
        Set<String> shown = new TreeSet<>();
        Matcher block = BLOCK.matcher(readme);
        while (block.find()) {
            Map<String, PaleFence> objects = new HashMap<>();
            for (String line : block.group(1).split("\n")) {
                Matcher made = MADE.matcher(line);
                Matcher asked = ASKED.matcher(line);
                if (made.matches()) {
                    objects.put(made.group(1), new PaleFence());
                } else if (asked.matches() && objects.containsKey(asked.group(1)) && CALLS.containsKey(asked.group(2))) {
                    shown.add(asked.group(2));
                    int answer = answerOf(objects.get(asked.group(1)), CALLS.get(asked.group(2)), asked.group(3));
                    Check.due(line, answer, numberOf(asked.group(4)));
                } else {
                    Check.holds("a call and its answer: '" + line + "'", line.isBlank());
                }
            }
        }
        Check.holds("each call is shown; these are: " + shown, shown.equals(CALLS.keySet()));
    }

    private static int answerOf(PaleFence x, Method call, String written) throws Exception {
        String[] numbers = written.isBlank() ? new String[0] : written.split(", ");
        Object[] arguments = new Object[numbers.length];
        for (int i = 0; i < numbers.length; i++) {
            long v = Long.decode(numbers[i].replace("L", ""));
            boolean isLong = i < call.getParameterCount() && call.getParameterTypes()[i] == long.class;
            boolean fits = v == (int) v || isLong && numbers[i].endsWith("L");
            Check.holds("Java takes " + numbers[i] + " there", fits);
            if (isLong) {
                arguments[i] = v;
            } else {
                arguments[i] = (int) v;
            }
        }
        return (Integer) call.invoke(x, arguments);
    }

    private static int numberOf(String answer) throws Exception {
        return REFUSALS.contains(answer) ? PaleFence.class.getField(answer).getInt(null) : Integer.parseInt(answer);
    }

    /** What each call may be refused by, in the order of the document. */
    private static Map<String, List<String>> refusalsOf(String document) {
        Map<String, List<String>> refusals = new TreeMap<>();
        Matcher promise = PROMISE.matcher(document);
        while (promise.find()) {
            refusals.put(promise.group(1), namedIn(promise.group(2)));
        }
        return refusals;
    }

    private static List<String> namedIn(String text) {
        List<String> names = new ArrayList<>();
        Matcher refusal = REFUSAL.matcher(text);
        while (refusal.find()) {
            names.add(refusal.group());
        }
        return names;
    }

    private static void tableOfCalls(String readme, Map<String, List<String>> due) {
        Check.part("README.md, the tables of calls");
        Set<String> told = new TreeSet<>();
        Matcher row = ROW.matcher(readme);
        while (row.find()) {
            String name = row.group(1);
            Check.holds(name + " is told once", told.add(name));
            Method call = CALLS.get(name);
            int written = row.group(2).isEmpty() ? 0 : row.group(2).split(", ").length;
            Check.due(name + ": arguments", written, call == null ? -1 : call.getParameterCount());
            List<String> refusals = namedIn(row.group(4));
            Check.holds(name + " is refused by " + due.get(name) + ", told are " + refusals, refusals.equals(due.get(name)));
        }
        Check.holds("each call is told; these are: " + told, told.equals(CALLS.keySet()));
    }

    private static void tableOfRefusals(String readme) throws Exception {
        Check.part("README.md, the table of refusals");
        List<String> told = new ArrayList<>();
        Matcher row = REFUSAL_ROW.matcher(readme);
        while (row.find()) {
            told.add(row.group(1));
            Check.due(row.group(1), numberOf(row.group(1)), Integer.parseInt(row.group(2)));
        }
        Check.holds("each refusal is told; these are: " + told, told.equals(REFUSALS));
    }

    private static void filesNamed(String readme) {
        Check.part("README.md, the tests");
        String[] files = Path.of("src/test/java").toFile().list();
        Check.holds("there are tests", files != null);
        for (String file : files == null ? new String[0] : files) {
            String name = file.replace(".java", "");
            Check.holds(name + " is told of", readme.contains("`" + name + "`"));
        }
    }
}
