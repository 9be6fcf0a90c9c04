import java.lang.reflect.Constructor;
import java.lang.reflect.Field;
import java.lang.reflect.Method;
import java.lang.reflect.Modifier;
import java.util.Set;
import java.util.TreeSet;

/** The public face, as the document writes it, and nothing else that can be seen from outside. */
public final class FaceTest {
    private static final Check CHECK = new Check("FaceTest");
    private static final Set<String> FACE = Set.of("int basic(int)", "int bounded(int,long,long)",
        "int tagged(int,int,boolean,int)", "int list(int,int)", "boolean open(int)", "boolean member(int,int,long)",
        "int close()", "boolean feed(long,int)", "void clear()",
        "int transcode(int) IllegalArgumentException IndexOutOfBoundsException",
        "int result(int)", "int octet(int)", "int counts()", "int firstTag(int,int)");

    public static void main(String[] args) {
        Class<?> face = TagCoder.class;
        CHECK.due("TagCoder is public and final", face.getModifiers(), Modifier.PUBLIC | Modifier.FINAL);
        Set<String> seen = new TreeSet<>();
        for (Method method : face.getDeclaredMethods()) {
            if (Modifier.isPrivate(method.getModifiers())) {
                bearsNoName(method);
            } else {
                seen.add(told(method));
            }
        }
        CHECK.due("methods", seen.toString(), new TreeSet<>(FACE).toString());
        for (Field field : face.getDeclaredFields()) {
            CHECK.due(field + " is private", Modifier.isPrivate(field.getModifiers()), true);
            CHECK.due(field + " may be static", mayBeStatic(field), true);
        }
        Constructor<?>[] constructors = face.getDeclaredConstructors();
        CHECK.due("constructors", constructors.length, 1);
        CHECK.due("its parameters", constructors[0].getParameterCount(), 0);
        CHECK.due("it is public", constructors[0].getModifiers(), Modifier.PUBLIC);
        for (Class<?> inside : face.getDeclaredClasses()) {
            lookInside(inside);
        }
        CHECK.finish();
    }

    private static String told(Method method) {
        StringBuilder text = new StringBuilder();
        String types = "";
        for (Class<?> type : method.getParameterTypes()) {
            types += (types.isEmpty() ? "" : ",") + type.getSimpleName();
        }
        text.append(method.getReturnType().getSimpleName()).append(' ').append(method.getName());
        text.append('(').append(types).append(')');
        Set<String> thrown = new TreeSet<>();
        for (Class<?> type : method.getExceptionTypes()) {
            thrown.add(type.getSimpleName());
        }
        for (String name : thrown) {
            text.append(' ').append(name);
        }
        return text.toString();
    }

    private static void bearsNoName(Method method) {
        boolean namesake = false;
        for (String call : FACE) {
            namesake |= call.contains(" " + method.getName() + "(");
        }
        CHECK.due(method + " has the name of a call", namesake, false);
    }

    private static boolean mayBeStatic(Field field) {
        return !Modifier.isStatic(field.getModifiers()) || Modifier.isFinal(field.getModifiers());
    }

    private static void lookInside(Class<?> inside) {
        int modifiers = inside.getModifiers();
        boolean hidden = !Modifier.isPublic(modifiers) && !Modifier.isProtected(modifiers);
        CHECK.due(inside + " is hidden", hidden, true);
        CHECK.due(inside + " is static", Modifier.isStatic(modifiers), true);
        for (Method method : inside.getDeclaredMethods()) {
            bearsNoName(method);
        }
        for (Field field : inside.getDeclaredFields()) {
            CHECK.due(field + " may be static", mayBeStatic(field), true);
        }
    }
}
