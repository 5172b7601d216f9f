import java.io.IOException;
import java.lang.reflect.Constructor;
import java.lang.reflect.Field;
import java.lang.reflect.Method;
import java.lang.reflect.Modifier;
import java.nio.file.Files;
import java.nio.file.Path;
import java.util.ArrayList;
import java.util.List;
import java.util.Set;
import java.util.TreeSet;
import java.util.regex.Matcher;
import java.util.regex.Pattern;

/** The rules of LANGUAGE.md that can be seen in the file, or in the classes that javac makes of it. */
public final class LanguageTest {
    private static final Set<String> LIBRARY = Set.of("Math", "IllegalStateException", "IllegalArgumentException",
        "IndexOutOfBoundsException", "UnsupportedOperationException");
    private static final List<Class<?>> CLASSES = new ArrayList<>();

    public static void main(String[] args) throws IOException {
        CLASSES.add(PlanText.class);
        CLASSES.addAll(List.of(PlanText.class.getDeclaredClasses()));
        String code = Files.readString(Path.of("src/main/java/PlanText.java"))
            .replaceAll("(?s)/\\*.*?\\*/|//[^\n]*", "").replaceAll("\"[^\"]*\"", "\"\"").replaceAll("'[^']+'", "' '");
        keepsToItsWords(code);
        usesNoLibraryBut(code);
        hasSmallClasses();
        hasStaticClassesAndFinalStatics();
        givesNoPrivateMethodAPublicName();
        Due.end();
    }

    private static void keepsToItsWords(String code) {
        Due.sentence("LANGUAGE.md, rules 1, 2, 6 and 7");
        for (String word : List.of("package", "import", "try", "catch", "finally", "assert", "synchronized", "native",
                "double", "float", "protected")) {
            Due.same("the word " + word, Pattern.compile("\\b" + word + "\\b").matcher(code).results().count(), 0);
        }
        Due.same("lambdas and method references", Pattern.compile("->|::").matcher(code).results().count(), 0);
        Due.same("throws of something else", Pattern.compile("throw (?!new \\w+Exception\\(\"\"\\);)").matcher(code)
            .results().count(), 0);
    }

    private static void usesNoLibraryBut(String code) {
        Due.sentence("LANGUAGE.md, rule 4");
        TreeSet<String> others = new TreeSet<>();
        Matcher name = Pattern.compile("\\b[A-Z]\\w*[a-z]\\w*").matcher(code);
        while (name.find()) {
            others.add(name.group());
        }
        others.removeAll(LIBRARY);
        for (Class<?> own : CLASSES) {
            others.remove(own.getSimpleName());
        }
        Due.same("names of other classes", others.toString(), "[]");
    }

    private static void hasSmallClasses() {
        Due.sentence("LANGUAGE.md, rule 11");
        Due.same("at most twelve classes", CLASSES.size() <= 12 ? 0 : CLASSES.size(), 0);
        for (Class<?> own : CLASSES) {
            int fields = 0;
            for (Field field : own.getDeclaredFields()) {
                fields += Modifier.isStatic(field.getModifiers()) ? 0 : 1;
            }
            Due.same("at most twenty fields of " + own, fields <= 20 ? 0 : fields, 0);
            for (Method method : own.getDeclaredMethods()) {
                Due.same("at most seven parameters of " + method, method.getParameterCount() <= 7 ? 0 : 1, 0);
            }
            for (Constructor<?> made : own.getDeclaredConstructors()) {
                Due.same("at most seven parameters of " + made, made.getParameterCount() <= 7 ? 0 : 1, 0);
            }
        }
    }

    private static void hasStaticClassesAndFinalStatics() {
        Due.sentence("LANGUAGE.md, rules 1 and 5");
        for (Class<?> own : PlanText.class.getDeclaredClasses()) {
            int modifiers = own.getModifiers();
            Due.same(own + " is static and not public", Modifier.isStatic(modifiers) && !Modifier.isPublic(modifiers) ? 0 : 1, 0);
        }
        for (Class<?> own : CLASSES) {
            for (Field field : own.getDeclaredFields()) {
                int modifiers = field.getModifiers();
                boolean constant = Modifier.isFinal(modifiers) && field.getType().isPrimitive();
                Due.same(field + " is no static state", !Modifier.isStatic(modifiers) || constant ? 0 : 1, 0);
            }
        }
    }

    private static void givesNoPrivateMethodAPublicName() {
        Due.sentence("LANGUAGE.md, rule 1");
        TreeSet<String> names = new TreeSet<>();
        for (Method method : PlanText.class.getMethods()) {
            names.add(method.getName());
        }
        for (Class<?> own : CLASSES) {
            for (Method method : own.getDeclaredMethods()) {
                boolean face = own == PlanText.class && Modifier.isPublic(method.getModifiers());
                Due.same("the name of " + method, !face && names.contains(method.getName()) ? 1 : 0, 0);
            }
        }
    }
}
