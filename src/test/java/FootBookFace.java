import java.lang.reflect.Constructor;
import java.lang.reflect.Field;
import java.lang.reflect.Method;
import java.lang.reflect.Modifier;
import java.util.Arrays;
import java.util.Set;
import java.util.TreeSet;

/** The face of the class is that of the document, and nothing else of it can be seen from outside. */
public final class FootBookFace {
    private static final String[] METHODS = {"feet 1", "volt 2", "unit 1", "kind 1", "use 3", "about 2", "wish 4",
        "wished 2", "fix 3", "drop 0", "best 0", "given 2", "crossings 0", "blame 0", "many 0", "trial 4", "hold 0",
        "change 0", "held 2", "setting 1", "stands 0", "told 1"};
    private static final String[] CONSTANTS = {"NONE", "UNKNOWN", "OUTSIDE", "STATE", "FULL", "NO"};

    private static int wrong = 0;

    public static void main(String[] args) {
        Class<?> face = FootBook.class;
        due("the class's modifiers", Modifier.toString(face.getModifiers()), "public final");
        due("methods", methodsOf(face), new TreeSet<>(Arrays.asList(METHODS)));
        due("constants", constantsOf(face), new TreeSet<>(Arrays.asList(CONSTANTS)));
        Constructor<?>[] constructors = face.getDeclaredConstructors();
        due("constructors", constructors.length, 1);
        due("the constructor", constructors[0].toString(), "public FootBook()");
        for (Class<?> inside : face.getDeclaredClasses()) {
            due("static " + inside, Modifier.isStatic(inside.getModifiers()), true);
        }
        System.out.println(wrong == 0 ? "the face is as due" : wrong + " parts of the face are not as due");
        if (wrong != 0) {
            System.exit(1);
        }
    }

    private static void due(String what, Object got, Object want) {
        if (!got.equals(want)) {
            wrong++;
            System.out.println(what + ": " + got + ", due is " + want);
        }
    }

    private static Set<String> methodsOf(Class<?> face) {
        Set<String> names = new TreeSet<>();
        for (Method method : face.getDeclaredMethods()) {
            if (!Modifier.isPrivate(method.getModifiers())) {
                names.add(method.getName() + " " + method.getParameterCount());
                due(method.getName() + "'s modifiers", Modifier.toString(method.getModifiers()), "public");
                due(method.getName() + "'s answer", method.getReturnType(), int.class);
                for (Class<?> type : method.getParameterTypes()) {
                    due(method.getName() + "'s arguments", type, int.class);
                }
            } else {
                due("private " + method.getName() + " bears a public name", bearsPublicName(method), false);
            }
        }
        return names;
    }

    private static boolean bearsPublicName(Method method) {
        for (String name : METHODS) {
            if (name.startsWith(method.getName() + " ")) {
                return true;
            }
        }
        return false;
    }

    private static Set<String> constantsOf(Class<?> face) {
        Set<String> names = new TreeSet<>();
        for (Field field : face.getDeclaredFields()) {
            if (!Modifier.isPrivate(field.getModifiers())) {
                names.add(field.getName());
                due(field.getName() + "'s modifiers", Modifier.toString(field.getModifiers()), "public static final");
                due(field.getName() + "'s type", field.getType(), int.class);
            }
        }
        return names;
    }
}
