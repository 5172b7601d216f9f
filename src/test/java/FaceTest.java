import java.lang.reflect.Constructor;
import java.lang.reflect.Method;
import java.lang.reflect.Modifier;
import java.util.Arrays;
import java.util.TreeSet;

/** The public face is the document's, and nothing else can be seen of the class. */
public final class FaceTest {
    private static final String[] FACE = {
        "int sign(long,int) IndexOutOfBoundsException UnsupportedOperationException",
        "int read(int) IndexOutOfBoundsException IllegalStateException UnsupportedOperationException",
        "int place()",
        "void town(int,int) IllegalArgumentException IndexOutOfBoundsException",
        "int plan(int,int,int,int,int) IllegalArgumentException IndexOutOfBoundsException",
        "int need(int,int) IllegalArgumentException",
        "int standby(int,int,int,int) IllegalArgumentException IndexOutOfBoundsException",
        "int clash(int,int) IndexOutOfBoundsException",
        "int never(int,int) IndexOutOfBoundsException",
        "int lacks(int,int) IndexOutOfBoundsException",
        "int print(int) IndexOutOfBoundsException",
        "int at(int) IndexOutOfBoundsException",
        "int count(int) IllegalArgumentException",
    };

    public static void main(String[] args) {
        TreeSet<String> seen = new TreeSet<>();
        for (Method method : PlanText.class.getDeclaredMethods()) {
            if (!Modifier.isPrivate(method.getModifiers())) {
                seen.add(told(method));
            }
        }
        Due.same("the face", seen.toString(), new TreeSet<>(Arrays.asList(FACE)).toString());
        Due.same("final and public", PlanText.class.getModifiers(), Modifier.PUBLIC | Modifier.FINAL);
        Constructor<?>[] made = PlanText.class.getDeclaredConstructors();
        Due.same("one constructor", made.length, 1);
        Due.same("without arguments, public", made[0].toString(), "public PlanText()");
        long fields = Arrays.stream(PlanText.class.getDeclaredFields())
            .filter(field -> !Modifier.isPrivate(field.getModifiers())).count();
        Due.same("fields that are not private", fields, 0);
        Due.end();
    }

    private static String told(Method method) {
        StringBuilder text = new StringBuilder(method.getReturnType().getName());
        text.append(" ").append(method.getName()).append("(");
        String comma = "";
        for (Class<?> type : method.getParameterTypes()) {
            text.append(comma).append(type.getName());
            comma = ",";
        }
        text.append(")");
        for (Class<?> type : method.getExceptionTypes()) {
            text.append(" ").append(type.getSimpleName());
        }
        return text.toString();
    }
}
