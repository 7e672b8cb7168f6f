import java.lang.reflect.Constructor;
import java.lang.reflect.Field;
import java.lang.reflect.Method;
import java.lang.reflect.Modifier;
import java.util.ArrayList;
import java.util.Collections;
import java.util.List;
import java.util.Set;
import java.util.TreeSet;

/** The public face of the document, and rule 1 of LANGUAGE.md. */
public final class FaceTest {
    private static final String[] FACE = {
        "boolean limits(int,int)", "boolean type(char)",
        "int append(int) IndexOutOfBoundsException IllegalStateException",
        "int authorize(int,int) IndexOutOfBoundsException IllegalArgumentException",
        "int clause() IllegalArgumentException UnsupportedOperationException IllegalStateException",
        "int count(int)", "int desk() IllegalArgumentException IllegalStateException",
        "int fact(int,int) IndexOutOfBoundsException",
        "int issue(int) IllegalArgumentException IllegalStateException", "int latest(int)",
        "int seal(int) IndexOutOfBoundsException IllegalStateException",
        "int tamper(int,int,int,int) IndexOutOfBoundsException IllegalStateException",
        "int token(int,int) IndexOutOfBoundsException", "void clear()", "void wipe()",
    };

    public static void main(String[] args) {
        Class<?> face = GrantChain.class;
        Bench.due("public and final", face.getModifiers() & (Modifier.PUBLIC | Modifier.FINAL), 17);
        List<String> found = new ArrayList<>();
        Set<String> names = new TreeSet<>();
        for (Method m : face.getDeclaredMethods()) {
            if (Modifier.isPublic(m.getModifiers())) {
                found.add(shown(m));
                names.add(m.getName());
            }
        }
        Collections.sort(found);
        Bench.same("the public methods", String.join("; ", found), String.join("; ", FACE));
        for (Method m : face.getDeclaredMethods()) {
            boolean open = Modifier.isPublic(m.getModifiers());
            Bench.due(m + " is public or private", open || Modifier.isPrivate(m.getModifiers()) ? 1 : 0, 1);
            Bench.due(m + " has a name of its own", !open && names.contains(m.getName()) ? 1 : 0, 0);
        }
        for (Field f : face.getDeclaredFields()) {
            Bench.due(f + " is private", Modifier.isPrivate(f.getModifiers()) ? 1 : 0, 1);
        }
        for (Constructor<?> c : face.getDeclaredConstructors()) {
            Bench.due(c + " is the document's", Modifier.isPublic(c.getModifiers()) ? c.getParameterCount() : 1, 0);
        }
        for (Class<?> inside : face.getDeclaredClasses()) {
            Bench.due(inside + " is static", Modifier.isStatic(inside.getModifiers()) ? 1 : 0, 1);
            Bench.due(inside + " is not public", Modifier.isPublic(inside.getModifiers()) ? 1 : 0, 0);
            for (Method m : inside.getDeclaredMethods()) {
                Bench.due(m + " has a name of its own", names.contains(m.getName()) ? 1 : 0, 0);
            }
        }
        Bench.close();
    }

    private static String shown(Method m) {
        StringBuilder text = new StringBuilder(m.getReturnType().getSimpleName());
        text.append(' ').append(m.getName()).append('(');
        for (int i = 0; i < m.getParameterCount(); i++) {
            text.append(i == 0 ? "" : ",").append(m.getParameterTypes()[i].getSimpleName());
        }
        text.append(')');
        for (Class<?> e : m.getExceptionTypes()) {
            text.append(' ').append(e.getSimpleName());
        }
        return text.toString();
    }
}
