import java.lang.reflect.Constructor;
import java.lang.reflect.Field;
import java.lang.reflect.Method;
import java.lang.reflect.Modifier;
import java.util.Arrays;
import java.util.TreeSet;

/** The public face is the document's: every constructor and method of it, and no other member that can be seen. */
public final class FaceTest {
    private static final String[] METHODS = {
        "boolean will(int, long, int)", "boolean connect(int, boolean, int, int, int)", "boolean drop(int)",
        "boolean leave(int)", "boolean ping(int)", "boolean subscribe(int, long, int, boolean)",
        "boolean unsubscribe(int, long)", "boolean publish(int, long, int, int, boolean)",
        "int deliver(int, boolean)", "int tick()", "void crash()", "boolean fail(int)", "int state(int)",
        "int session(int)", "int line(int, boolean)", "long packet(int, boolean, int)", "int inbox(int, int)",
        "int store(int)", "int retained(long)", "boolean matches(long, long)"};

    public static void main(String[] args) {
        Check.due("the class is public and final", MessageHub.class.getModifiers(), Modifier.PUBLIC | Modifier.FINAL);
        TreeSet<String> seen = new TreeSet<>();
        TreeSet<String> publicNames = new TreeSet<>();
        for (Method method : MessageHub.class.getDeclaredMethods()) {
            if (!Modifier.isPrivate(method.getModifiers())) {
                Check.due(method + ": modifiers", method.getModifiers(), Modifier.PUBLIC);
                seen.add(shown(method));
                publicNames.add(method.getName());
            }
        }
        TreeSet<String> wanted = new TreeSet<>(Arrays.asList(METHODS));
        Check.due("the methods are " + seen + ", due are " + wanted, seen.equals(wanted), true);
        lookAtTheRest(publicNames);
        Check.finish();
    }

    private static void lookAtTheRest(TreeSet<String> publicNames) {
        for (Constructor<?> constructor : MessageHub.class.getDeclaredConstructors()) {
            Check.due(constructor + ": public", constructor.getModifiers(), Modifier.PUBLIC);
            Check.due(constructor + ": parameters", constructor.getParameterCount(), 0);
        }
        for (Field field : MessageHub.class.getDeclaredFields()) {
            Check.due(field + " is private", Modifier.isPrivate(field.getModifiers()), true);
            Check.due(field + " is final", Modifier.isFinal(field.getModifiers()), true);
        }
        for (Method method : MessageHub.class.getDeclaredMethods()) {
            boolean hidden = Modifier.isPrivate(method.getModifiers());
            Check.due(method + " bears a public name", hidden && publicNames.contains(method.getName()), false);
        }
        for (Class<?> inside : MessageHub.class.getDeclaredClasses()) {
            Check.due(inside + " is static", Modifier.isStatic(inside.getModifiers()), true);
            Check.due(inside + " is public", Modifier.isPublic(inside.getModifiers()), false);
        }
    }

    private static String shown(Method method) {
        StringBuilder text = new StringBuilder();
        for (Class<?> type : method.getParameterTypes()) {
            text.append(text.length() == 0 ? "" : ", ").append(type.getName());
        }
        return method.getReturnType().getName() + " " + method.getName() + "(" + text + ")";
    }
}
