import java.io.IOException;
import java.lang.reflect.Method;
import java.lang.reflect.Modifier;
import java.nio.file.DirectoryStream;
import java.nio.file.Files;
import java.nio.file.Path;
import java.util.HashMap;
import java.util.List;
import java.util.Map;
import java.util.Set;
import java.util.TreeSet;
import java.util.regex.Matcher;
import java.util.regex.Pattern;

/** README.md holds word for word: its example answers as it says, and what it names is there. */
public final class FootBookReadme {
    private static final Path PAGE = Path.of("README.md");
    private static final Path TESTS = Path.of("src/test/java");
    private static final String BEGIN = "```java";
    private static final String END = "```";

    /** A call, what its answer is called (if anything), what it is called with, and the answer that the page tells. */
    private static final Pattern CALL =
            Pattern.compile("(?:int (\\w+) = )?book\\.(\\w+)\\(([^)]*)\\);\\s*// (-?\\w+)(?::.*)?");
    private static final Pattern FIRST = Pattern.compile("FootBook book = new FootBook\\(\\);\\s*// .*");
    private static final Pattern FILE = Pattern.compile("(?:\\.\\./)?\\.?[\\w]+(?:/[\\w.]+)+");
    private static final Pattern TEST = Pattern.compile("^- `(\\w+)`:.*");
    private static final Pattern CONSTANT = Pattern.compile("`([A-Z]+)` (-\\d+)");

    private static int asked = 0;
    private static int wrong = 0;

    public static void main(String[] args) throws Exception {
        List<String> page = Files.readAllLines(PAGE);
        exampleAnswersAsItSays(page);
        constantsAreAsItSays(String.join(" ", page));
        filesAreThere(String.join(" ", page));
        due("the tests that the page tells of", testsTold(page), testsThere());
        System.out.println(asked + " words of the page looked at, " + wrong + " not as due");
        if (wrong != 0) {
            System.exit(1);
        }
    }

    private static void due(String what, Object got, Object want) {
        asked++;
        if (!got.equals(want)) {
            wrong++;
            System.out.println(what + ": " + got + ", due is " + want);
        }
    }

    private static void exampleAnswersAsItSays(List<String> page) throws Exception {
        int from = page.indexOf(BEGIN) + 1;
        int to = page.lastIndexOf(END);
        due("there is one example", page.lastIndexOf(BEGIN) + 1 == from && from > 0 && from < to, true);
        FootBook book = new FootBook();
        Map<String, Integer> names = new HashMap<>();
        Set<String> called = new TreeSet<>();
        due("the example's first line", FIRST.matcher(page.get(from)).matches(), true);
        for (String line : page.subList(from + 1, to)) {
            if (!line.isEmpty() && !line.startsWith("// ")) {
                Matcher call = CALL.matcher(line);
                if (call.matches()) {
                    called.add(call.group(2));
                    int got = call(book, call.group(2), call.group(3), names);
                    due(line, got, number(call.group(4), names));
                    names.put(String.valueOf(call.group(1)), got);
                } else {
                    due("a line that tells no answer: " + line, false, true);
                }
            }
        }
        due("the calls of the example", called, callsOfTheFace());
    }

    private static int call(FootBook book, String name, String with, Map<String, Integer> names) throws Exception {
        String[] words = with.isEmpty() ? new String[0] : with.split(", ");
        Class<?>[] types = new Class<?>[words.length];
        Object[] numbers = new Object[words.length];
        for (int i = 0; i < words.length; i++) {
            types[i] = int.class;
            numbers[i] = number(words[i], names);
        }
        return (Integer) FootBook.class.getMethod(name, types).invoke(book, numbers);
    }

    /** A number, the name of an earlier answer, or a constant of the class. */
    private static int number(String word, Map<String, Integer> names) throws Exception {
        if (names.containsKey(word)) {
            return names.get(word);
        }
        return word.matches("[A-Z]+") ? FootBook.class.getField(word).getInt(null) : Integer.parseInt(word);
    }

    private static Set<String> callsOfTheFace() {
        Set<String> calls = new TreeSet<>();
        for (Method method : FootBook.class.getDeclaredMethods()) {
            if (Modifier.isPublic(method.getModifiers())) {
                calls.add(method.getName());
            }
        }
        return calls;
    }

    private static void constantsAreAsItSays(String page) throws Exception {
        Set<String> told = new TreeSet<>();
        Matcher constant = CONSTANT.matcher(page);
        while (constant.find()) {
            told.add(constant.group(1));
            due(constant.group(1), FootBook.class.getField(constant.group(1)).getInt(null),
                    Integer.parseInt(constant.group(2)));
        }
        due("the constants", told, Set.of("NONE", "UNKNOWN", "OUTSIDE", "STATE", "FULL", "NO"));
    }

    /** Those of the project; what lies beside it is not its own. */
    private static void filesAreThere(String page) {
        Matcher file = FILE.matcher(page);
        while (file.find()) {
            if (!file.group().startsWith("../")) {
                due(file.group() + " is there", Files.exists(Path.of(file.group())), true);
            }
        }
    }

    private static Set<String> testsTold(List<String> page) {
        Set<String> names = new TreeSet<>();
        for (String line : page) {
            Matcher test = TEST.matcher(line);
            if (test.matches()) {
                names.add(test.group(1));
            }
        }
        return names;
    }

    private static Set<String> testsThere() throws IOException {
        Set<String> names = new TreeSet<>();
        try (DirectoryStream<Path> files = Files.newDirectoryStream(TESTS, "*.java")) {
            for (Path file : files) {
                names.add(file.getFileName().toString().replace(".java", ""));
            }
        }
        return names;
    }
}
