import java.lang.reflect.Method;
import java.lang.reflect.Modifier;
import java.nio.file.Files;
import java.nio.file.Path;
import java.util.HashMap;
import java.util.HashSet;
import java.util.List;
import java.util.Map;
import java.util.Set;
import java.util.regex.Matcher;
import java.util.regex.Pattern;

/** README.md's examples, read from the page itself and made call by call; and that the page tells each call. */
public final class ReadmeTest {
    private static final Pattern CALL = Pattern.compile("ring\\.(\\w+)\\(([-0-9, ]*)\\); +// (-?\\d+|[A-Z]+): .+");
    private static final Pattern TEXT = Pattern.compile("for \\(char c : \"(.*)\"\\.toCharArray\\(\\)\\) ring\\.type\\(c\\);");
    private static final String NEW = "WhisperRing ring = new WhisperRing();";
    /** The groups that the document's interface has, as headings. */
    private static final String[] GROUPS = {"## The gallery", "## What is done", "## When, where", "## What was said",
        "## Kinds, images"};
    private static final Due due = new Due();

    private final Map<String, Method> face = new HashMap<>();
    private final Set<String> examples = new HashSet<>();
    private WhisperRing ring;

    private ReadmeTest() {
        for (Method m : WhisperRing.class.getDeclaredMethods()) {
            if (Modifier.isPublic(m.getModifiers())) {
                face.put(m.getName(), m);
            }
        }
    }

    public static void main(String[] args) throws Exception {
        Path source = Path.of(args.length > 0 ? args[0] : "src/main/java/WhisperRing.java").toAbsolutePath();
        Path root = source.getParent().getParent().getParent().getParent();
        List<String> page = Files.readAllLines(root.resolve("README.md"));
        ReadmeTest test = new ReadmeTest();
        test.makeTheExamples(page);
        test.eachCallIsTold(page);
        test.eachGroupIsTold(page);
        due.end();
    }

    private void makeTheExamples(List<String> page) throws Exception {
        boolean inside = false;
        for (String line : page) {
            if (line.startsWith("```")) {
                inside = line.equals("```java");
            } else if (inside) {
                make(line);
            }
        }
        due.holds("there is an object on the page", ring != null);
    }

    private void make(String line) throws Exception {
        Matcher text = TEXT.matcher(line);
        Matcher call = CALL.matcher(line);
        if (line.equals(NEW)) {
            ring = new WhisperRing();
        } else if (text.matches()) {
            Due.typeAll(ring, text.group(1));
            examples.add("type");
        } else {
            boolean known = call.matches() && face.containsKey(call.group(1));
            due.holds("an example that can be made: " + line, known);
            if (known) {
                examples.add(call.group(1));
                due.is(line, answer(call.group(1), call.group(2)), number(call.group(3)));
            }
        }
    }

    private long answer(String name, String told) throws Exception {
        String[] numbers = told.isEmpty() ? new String[0] : told.split(", ");
        Object[] given = new Object[numbers.length];
        for (int i = 0; i < numbers.length; i++) {
            given[i] = Integer.valueOf(numbers[i]);
        }
        return ((Number) face.get(name).invoke(ring, given)).longValue();
    }

    private static long number(String told) throws Exception {
        return Character.isLetter(told.charAt(0)) ? WhisperRing.class.getField(told).getInt(null) : Long.parseLong(told);
    }

    private void eachCallIsTold(List<String> page) {
        for (Method m : face.values()) {
            String row = "| `" + m.getName() + "(";
            long rows = page.stream().filter(line -> line.startsWith(row)
                && countOfNames(line, row.length()) == m.getParameterCount()).count();
            due.is("README.md's rows of " + m.getName(), rows, 1);
            due.holds("README.md has an example of " + m.getName(), examples.contains(m.getName()));
        }
    }

    private static int countOfNames(String line, int from) {
        String names = line.substring(from, line.indexOf(')', from));
        return names.isEmpty() ? 0 : names.split(", ").length;
    }

    private void eachGroupIsTold(List<String> page) {
        int at = -1;
        for (String group : GROUPS) {
            int next = page.indexOf(group);
            due.holds("'" + group + "' is told, in the document's order", next > at);
            at = next;
        }
        due.holds("how the tests are run is told", page.contains(".ci/run"));
    }
}
