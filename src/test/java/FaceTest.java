import java.lang.reflect.Constructor;
import java.lang.reflect.Field;
import java.lang.reflect.Method;
import java.lang.reflect.Modifier;
import java.lang.reflect.Parameter;
import java.nio.file.Files;
import java.nio.file.Path;
import java.util.Set;
import java.util.StringJoiner;
import java.util.TreeSet;
import java.util.regex.Matcher;
import java.util.regex.Pattern;

/**
 * "The public face": the class has the constants, the constructor and the methods that stand in the
 * document, with just these types and names (rule 1 of the language: and no others).
 */
public final class FaceTest {
    private static final Path DOCUMENT = Path.of("../shared/DOC.md");
    private static final Pattern FACE = Pattern.compile("(?s)## The public face\\s+```java\n(.*?)```");
    private static final Pattern CONSTANTS = Pattern.compile("public static final int (.*);");
    private static final Pattern METHOD = Pattern.compile("public (int|long) (\\w+)\\((.*)\\);");
    private static final int CONSTANT = Modifier.PUBLIC | Modifier.STATIC | Modifier.FINAL;

    private FaceTest() {
    }

    public static void main(String[] args) throws Exception {
        Matcher face = FACE.matcher(Files.readString(DOCUMENT));
        Due.due("the document has a face", face.find() ? 1 : 0, 1);
        String text = face.group(1);
        same("the class", Set.of("public final class GlebeVowels"), Set.of(theClass()));
        same("a constant", documentsConstants(text), constants());
        same("a constructor", Set.of("public GlebeVowels()"), constructors());
        same("a method", documentsMethods(text), methods());
        Due.due("constants", constants().size(), 8);
        Due.due("methods", methods().size(), 31);
        nestedClasses();
        Due.end();
    }

    private static void same(String what, Set<String> due, Set<String> found) {
        for (String one : due) {
            Due.due(what + " of the document is missing: " + one, found.contains(one) ? 0 : 1, 0);
        }
        for (String one : found) {
            Due.due(what + " that the document has not: " + one, due.contains(one) ? 0 : 1, 0);
        }
    }

    private static String theClass() {
        Due.due("GlebeVowels extends Object", GlebeVowels.class.getSuperclass() == Object.class ? 1 : 0, 1);
        Due.due("interfaces of GlebeVowels", GlebeVowels.class.getInterfaces().length, 0);
        return Modifier.toString(GlebeVowels.class.getModifiers()) + " class " + GlebeVowels.class.getName();
    }

    private static Set<String> documentsConstants(String text) {
        Set<String> all = new TreeSet<>();
        Matcher line = CONSTANTS.matcher(text);
        while (line.find()) {
            all.addAll(Set.of(line.group(1).split(", ")));
        }
        return all;
    }

    private static Set<String> constants() throws IllegalAccessException {
        Set<String> all = new TreeSet<>();
        for (Field field : GlebeVowels.class.getDeclaredFields()) {
            if (!Modifier.isPrivate(field.getModifiers())) {
                boolean constant = field.getModifiers() == CONSTANT && field.getType() == int.class;
                all.add(field.getName() + " = " + (constant ? field.getInt(null) : "no constant"));
            }
        }
        return all;
    }

    private static Set<String> constructors() {
        Set<String> all = new TreeSet<>();
        for (Constructor<?> constructor : GlebeVowels.class.getDeclaredConstructors()) {
            all.add(constructor.toString());
        }
        return all;
    }

    private static Set<String> documentsMethods(String text) {
        Set<String> all = new TreeSet<>();
        Matcher line = METHOD.matcher(text);
        while (line.find()) {
            String types = line.group(3).replaceAll("(int|long) \\w+", "$1");
            all.add("public " + line.group(1) + " " + line.group(2) + "(" + types + ")");
        }
        return all;
    }

    private static Set<String> methods() {
        Set<String> all = new TreeSet<>();
        for (Method method : GlebeVowels.class.getDeclaredMethods()) {
            if (Modifier.isPrivate(method.getModifiers()) || method.isSynthetic()) {
                continue;
            }
            StringJoiner types = new StringJoiner(", ", "(", ")");
            for (Parameter parameter : method.getParameters()) {
                types.add(parameter.getType().getName());
            }
            all.add(Modifier.toString(method.getModifiers()) + " " + method.getReturnType().getName() + " "
                + method.getName() + types);
        }
        return all;
    }

    /** Rule 1: the classes inside are private or package-visible, and static. */
    private static void nestedClasses() {
        for (Class<?> nested : GlebeVowels.class.getDeclaredClasses()) {
            int how = nested.getModifiers();
            Due.due(nested + " is static", Modifier.isStatic(how) ? 1 : 0, 1);
            Due.due(nested + " is public or protected", how & (Modifier.PUBLIC | Modifier.PROTECTED), 0);
        }
    }
}
