import java.lang.reflect.Field;
import java.lang.reflect.Method;
import java.lang.reflect.Modifier;
import java.nio.file.Files;
import java.nio.file.Path;
import java.util.ArrayList;
import java.util.List;
import java.util.Set;
import java.util.regex.Matcher;
import java.util.regex.Pattern;

/** Those rules of LANGUAGE.md that can be read off the class and its text. */
public final class FootBookLanguage {
    private static final Path SOURCE = Path.of("src/main/java/FootBook.java");

    /** Words outside the rules; an arrow is fine in a switch alone. */
    private static final Pattern FORBIDDEN = Pattern.compile("\\b(package|finally|synchronized|assert|var|Object)\\b"
            + "|::|static \\{|(?m)^(?!\\s*(case|default)\\b).*->|\\bimport (?!java\\.util\\.)|\\bimport .*\\*");
    private static final Pattern OF_LIBRARY = Pattern.compile("\\b([A-Z][a-z]+)\\.(\\w+)\\(");
    private static final Set<String> ALLOWED_OF_LIBRARY =
            Set.of("Math.min", "Math.max", "Math.abs", "Integer.bitCount", "System.arraycopy");
    private static final Set<Class<?>> TYPES_OF_CONSTANTS = Set.of(int.class, int[].class);

    private static final int MOST_PARAMETERS = 7;
    private static final int MOST_FIELDS = 20;
    private static final int MOST_CLASSES = 12;
    private static final int MOST_LINES = 60;

    private static int asked = 0;
    private static int wrong = 0;

    public static void main(String[] args) throws Exception {
        String text = withoutComments(Files.readString(SOURCE));
        due("rules 2 to 6: what may not stand there", all(FORBIDDEN.matcher(text)).isEmpty(), all(FORBIDDEN.matcher(text)));
        for (String call : all(OF_LIBRARY.matcher(text))) {
            String name = call.substring(0, call.length() - 1);
            due("rule 4: what is used of the library", ALLOWED_OF_LIBRARY.contains(name), name);
        }
        due("rule 4: signs are plain ones", text.chars().allMatch(sign -> sign < 128), "others");
        Class<?>[] inside = FootBook.class.getDeclaredClasses();
        due("rule 11: classes", inside.length + 1 <= MOST_CLASSES, inside.length + 1);
        looksRight(FootBook.class);
        for (Class<?> one : inside) {
            looksRight(one);
        }
        methodsAreShort(text);
        System.out.println(asked + " parts looked at, " + wrong + " not as due");
        if (wrong != 0) {
            System.exit(1);
        }
    }

    private static void due(String what, boolean holds, Object seen) {
        asked++;
        if (!holds) {
            wrong++;
            System.out.println(what + ": " + seen);
        }
    }

    private static String withoutComments(String text) {
        return text.replaceAll("(?s)/\\*.*?\\*/", "").replaceAll("//[^\n]*", "");
    }

    private static List<String> all(Matcher matcher) {
        List<String> found = new ArrayList<>();
        while (matcher.find()) {
            found.add(matcher.group());
        }
        return found;
    }

    private static void looksRight(Class<?> one) {
        int fields = 0;
        for (Field field : one.getDeclaredFields()) {
            if (Modifier.isStatic(field.getModifiers())) {
                due("rule 5: static fields are final", Modifier.isFinal(field.getModifiers()), field);
                due("rule 5: constants", TYPES_OF_CONSTANTS.contains(field.getType()), field);
            } else {
                fields++;
            }
        }
        due("rule 11: fields", fields <= MOST_FIELDS, one + " has " + fields);
        for (Method method : one.getDeclaredMethods()) {
            due("rule 11: parameters", method.getParameterCount() <= MOST_PARAMETERS, method);
            due("rule 1: no name of a call anew", one == FootBook.class || !isCall(method.getName()), method);
        }
        if (one != FootBook.class) {
            due("rule 2: static", Modifier.isStatic(one.getModifiers()), one);
            due("rule 1: no class for all", !Modifier.isPublic(one.getModifiers()), one);
        }
    }

    private static boolean isCall(String name) {
        for (Method method : FootBook.class.getMethods()) {
            if (method.getDeclaringClass() == FootBook.class && method.getName().equals(name)) {
                return true;
            }
        }
        return false;
    }

    /** A method begins with a line that has both brackets and opens a brace, and ends with a brace as far in. */
    private static void methodsAreShort(String text) {
        String[] lines = text.split("\n");
        Pattern head = Pattern.compile("( {4}| {8})(\\w[\\w\\[\\] ]*)\\([^)]*\\) \\{");
        for (int i = 0; i < lines.length; i++) {
            Matcher matcher = head.matcher(lines[i]);
            if (matcher.matches() && !matcher.group(2).matches("(if|for|while|switch) ?")) {
                int end = i;
                while (end < lines.length && !lines[end].equals(matcher.group(1) + "}")) {
                    end++;
                }
                due("rule 11: lines", end < lines.length && end - i < MOST_LINES, lines[i].trim());
            }
        }
    }
}
