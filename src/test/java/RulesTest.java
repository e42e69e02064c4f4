import java.lang.reflect.Field;
import java.lang.reflect.Method;
import java.lang.reflect.Modifier;
import java.nio.file.Files;
import java.nio.file.Path;
import java.util.Arrays;
import java.util.HashSet;
import java.util.List;
import java.util.Set;
import java.util.TreeSet;
import java.util.regex.Matcher;
import java.util.regex.Pattern;

/** The document's face, and those rules of LANGUAGE.md that can be seen by reflection or in the source's text. */
public final class RulesTest {
    private static final List<String> FACE = Arrays.asList(
        "int type(int)", "int clear()", "int gallery()", "int saying(int,int)", "int place(int,int)",
        "int ticks(int)", "int says(int,int,int,int)", "int hushes(int)", "int undo()", "int now(int)",
        "int when(int,int,int)", "int meet(int,int)", "int best(int,int,int,int,int)", "int stills(int)",
        "int odds(int,int,int,int)", "int hears(int,int,int)", "int forget()", "int guesses(int)", "int ask(int)",
        "int mark(int,int)", "int keep(int)", "int back(int)", "int count(int)", "long trace()");
    private static final List<String> CONSTANTS = Arrays.asList("BAD", "STATE", "FULL", "NONE", "NO");
    private static final Due due = new Due();

    public static void main(String[] args) throws Exception {
        constants();
        methods();
        fields();
        classesInside();
        String path = args.length > 0 ? args[0] : "src/main/java/WhisperRing.java";
        source(Files.readString(Path.of(path)));
        due.end();
    }

    private static void constants() {
        due.is("BAD", WhisperRing.BAD, -1);
        due.is("STATE", WhisperRing.STATE, -2);
        due.is("FULL", WhisperRing.FULL, -3);
        due.is("NONE", WhisperRing.NONE, -9);
        due.is("NO", WhisperRing.NO, -1000000);
        due.holds("the class is public and final",
            Modifier.isPublic(WhisperRing.class.getModifiers()) && Modifier.isFinal(WhisperRing.class.getModifiers()));
        due.is("constructors", WhisperRing.class.getDeclaredConstructors().length, 1);
        due.is("public constructors", WhisperRing.class.getConstructors().length, 1);
    }

    private static void methods() {
        Set<String> open = new TreeSet<>();
        Set<String> openNames = new HashSet<>();
        for (Method m : WhisperRing.class.getDeclaredMethods()) {
            if (!Modifier.isPrivate(m.getModifiers())) {
                String kinds = Arrays.toString(m.getParameterTypes()).replaceAll("[\\[\\] ]", "");
                open.add(m.getReturnType() + " " + m.getName() + "(" + kinds + ")");
                openNames.add(m.getName());
            }
        }
        due.holds("the methods are those of the document: " + open, open.equals(new TreeSet<>(FACE)));
        for (Class<?> c : WhisperRing.class.getDeclaredClasses()) {
            noOpenName(c, openNames);
        }
        for (Method m : WhisperRing.class.getDeclaredMethods()) {
            due.holds(m + " bears no public name",
                !Modifier.isPrivate(m.getModifiers()) || !openNames.contains(m.getName()));
        }
    }

    private static void noOpenName(Class<?> c, Set<String> openNames) {
        for (Method m : c.getDeclaredMethods()) {
            due.holds(m + " bears no public name", !openNames.contains(m.getName()));
            due.holds(m + " has at most seven parameters", m.getParameterCount() <= 7);
        }
    }

    private static void fields() {
        for (Field f : WhisperRing.class.getDeclaredFields()) {
            boolean constant = CONSTANTS.contains(f.getName());
            due.holds(f + " is private, or a constant of the document",
                constant ? Modifier.isPublic(f.getModifiers()) : Modifier.isPrivate(f.getModifiers()));
            due.holds(f + " is final if it is static",
                !Modifier.isStatic(f.getModifiers()) || Modifier.isFinal(f.getModifiers()));
        }
    }

    private static void classesInside() {
        Class<?>[] inside = WhisperRing.class.getDeclaredClasses();
        due.holds("at most twelve classes", inside.length < 12);
        for (Class<?> c : inside) {
            due.holds(c + " is static, and not public or protected", Modifier.isStatic(c.getModifiers())
                && !Modifier.isPublic(c.getModifiers()) && !Modifier.isProtected(c.getModifiers()));
            int own = 0;
            for (Field f : c.getDeclaredFields()) {
                own += Modifier.isStatic(f.getModifiers()) ? 0 : 1;
                due.holds(f + " is final if it is static",
                    !Modifier.isStatic(f.getModifiers()) || Modifier.isFinal(f.getModifiers()));
            }
            due.holds(c + " has at most twenty fields", own <= 20);
        }
    }

    private static void source(String text) {
        String code = text.replaceAll("(?s)/\\*.*?\\*/", "").replaceAll("//[^\n]*", "");
        String[] words = {"throw", "throws", "try", "catch", "synchronized", "assert", "import", "package", "protected",
            "Object", "instanceof", "record", "var"};
        for (String word : words) {
            due.holds("no " + word, !Pattern.compile("\\b" + word + "\\b").matcher(code).find());
        }
        due.holds("no lambda", !code.contains("->"));
        due.holds("no method reference", !code.contains("::"));
        Matcher calls = Pattern.compile("\\b(Math|Integer|Long|System|Arrays)\\.(\\w+)").matcher(code);
        Set<String> allowed = Set.of("Math.floorMod", "Math.max", "Math.min", "Integer.bitCount", "System.arraycopy");
        while (calls.find()) {
            due.holds(calls.group() + " is of the library", allowed.contains(calls.group()));
        }
        methodsAreShort(code);
    }

    /** A method's head stands 4 or 8 blanks in, and so does the } that ends it. */
    private static void methodsAreShort(String code) {
        Matcher m = Pattern.compile("(?ms)^( {4}| {8})(?=\\w)[\\w\\[\\] ]+ \\w+\\([^)]*\\) \\{$.*?^\\1\\}$").matcher(code);
        int found = 0;
        while (m.find()) {
            found++;
            due.holds("a method has at most sixty lines: " + m.group().lines().findFirst().orElse(""),
                m.group().lines().count() <= 60);
        }
        due.holds("the methods were found", found >= 60);
    }
}
