import java.io.IOException;
import java.lang.reflect.Method;
import java.lang.reflect.Modifier;
import java.nio.file.Files;
import java.nio.file.Path;
import java.util.TreeSet;
import java.util.regex.Matcher;
import java.util.regex.Pattern;

/** Prints a test that makes the calls README.md shows, in their order, and wants the answers it tells of them. */
public final class ReadmeCalls {
    private static final Pattern OBJECT = Pattern.compile("PlanText \\w+ = new PlanText\\(\\);");
    private static final Pattern ROW = Pattern.compile("(.+);\\s+// (-?\\d+|throws \\w+|no answer)(: .*)?");
    private static final Pattern NAME = Pattern.compile("x\\.(\\w+)\\(.*");

    private final StringBuilder members = new StringBuilder();
    private final StringBuilder rows = new StringBuilder();
    private final TreeSet<String> due = new TreeSet<>();
    private final TreeSet<String> withoutAnswer = new TreeSet<>();
    private boolean wrong = false;

    public static void main(String[] args) throws IOException {
        ReadmeCalls calls = new ReadmeCalls();
        calls.takeFace();
        calls.takeBlocks(Files.readString(Path.of("README.md")));
        if (!calls.due.isEmpty()) {
            calls.complain("README.md does not show " + calls.due);
        }
        System.out.println("public final class ReadmeTest {\n" + calls.members
            + "    public static void main(String[] args) {\n" + calls.rows + "        Due.end();\n    }\n}");
        if (calls.wrong) {
            System.exit(1);
        }
    }

    private void complain(String what) {
        wrong = true;
        System.err.println(what);
    }

    /** Every call has to be shown with an answer, and with each exception that it may throw. */
    private void takeFace() {
        for (Method method : PlanText.class.getDeclaredMethods()) {
            if (Modifier.isPublic(method.getModifiers())) {
                due.add(method.getName());
                for (Class<?> thrown : method.getExceptionTypes()) {
                    due.add(method.getName() + " throws " + thrown.getSimpleName());
                }
                if (method.getReturnType() == void.class) {
                    withoutAnswer.add(method.getName());
                }
            }
        }
    }

    private void takeBlocks(String text) {
        String[] parts = text.split("```");
        for (int i = 1; i < parts.length; i += 2) {
            if (parts[i].startsWith("java\nstatic ")) {
                members.append(parts[i].substring("java\n".length()));
            } else if (parts[i].startsWith("java\n")) {
                for (String line : parts[i].substring("java\n".length()).split("\n")) {
                    takeLine(line);
                }
            }
        }
    }

    private void takeLine(String line) {
        Matcher row = ROW.matcher(line);
        if (OBJECT.matcher(line).matches()) {
            rows.append(line).append("\n");
        } else if (row.matches()) {
            takeRow(row.group(1), row.group(2));
        } else {
            complain("README.md tells no answer: " + line);
        }
    }

    private void takeRow(String call, String answer) {
        Matcher named = NAME.matcher(call);
        String name = named.matches() ? named.group(1) : "";
        due.remove(answer.startsWith("throws ") ? name + " " + answer : name);
        String asked = withoutAnswer.contains(name)
            ? "Due.outcome(() -> { " + call + "; return 0; }).replaceFirst(\"^0$\", \"no answer\")"
            : "Due.outcome(() -> " + call + ")";
        rows.append("        Due.same(\"README.md: ").append(call.replace("\"", "\\\"")).append("\", ").append(asked)
            .append(", \"").append(answer.replace("throws ", "throws.")).append("\");\n");
    }
}
