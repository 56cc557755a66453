import java.lang.reflect.Constructor;
import java.lang.reflect.Field;
import java.lang.reflect.Method;
import java.lang.reflect.Modifier;
import java.util.Arrays;
import java.util.TreeSet;

/** The class has the face of the document, and no other member that can be seen. */
public final class FaceTest {
    private static final String[] FACE = {
        "boolean alter(int, int)",
        "boolean cut(int)",
        "boolean digest()",
        "boolean put(long, int)",
        "int at(int) IndexOutOfBoundsException",
        "int content()",
        "int install(long, int) IllegalArgumentException IllegalStateException NoSuchElementException"
                + " UnsupportedOperationException",
        "int installed()",
        "int length()",
        "int mix(int)",
        "int offer() IllegalArgumentException IndexOutOfBoundsException IllegalStateException"
                + " UnsupportedOperationException NoSuchElementException",
        "int seek(long, int) IllegalArgumentException IllegalStateException",
        "int sign(int) IndexOutOfBoundsException IllegalArgumentException UnsupportedOperationException",
        "int tick(int) IllegalArgumentException",
        "int trusted(int, boolean) IndexOutOfBoundsException",
        "int visits()",
        "void begin() IllegalArgumentException",
    };

    public static void main(String[] args) throws ReflectiveOperationException {
        Checks checks = new Checks();
        Class<TrustedUpdates> face = TrustedUpdates.class;
        checks.due("NONE", TrustedUpdates.NONE, -1);
        checks.dueText("the class", Modifier.toString(face.getModifiers()), "public final");
        TreeSet<String> methods = new TreeSet<>();
        for (Method method : face.getDeclaredMethods()) {
            if (!Modifier.isPrivate(method.getModifiers())) {
                methods.add(signature(method));
                checks.dueText(method.getName(), Modifier.toString(method.getModifiers()), "public");
            }
        }
        checks.dueText("the methods", methods.toString(), new TreeSet<>(Arrays.asList(FACE)).toString());
        for (Field field : face.getDeclaredFields()) {
            boolean isNone = field.getName().equals("NONE");
            checks.due(field.getName() + " is private", Modifier.isPrivate(field.getModifiers()), !isNone);
        }
        checks.dueText("NONE", face.getDeclaredField("NONE").toString(), "public static final int TrustedUpdates.NONE");
        for (Constructor<?> constructor : face.getDeclaredConstructors()) {
            checks.dueText("the constructor", constructor.toString(), "public TrustedUpdates()");
        }
        checks.finish("FaceTest");
    }

    private static String signature(Method method) {
        StringBuilder text = new StringBuilder();
        text.append(method.getReturnType().getSimpleName()).append(' ').append(method.getName()).append('(');
        String comma = "";
        for (Class<?> type : method.getParameterTypes()) {
            text.append(comma).append(type.getSimpleName());
            comma = ", ";
        }
        text.append(')');
        for (Class<?> type : method.getExceptionTypes()) {
            text.append(' ').append(type.getSimpleName());
        }
        return text.toString();
    }

    private FaceTest() {
    }
}
