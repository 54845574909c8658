import java.lang.reflect.Constructor;
import java.lang.reflect.Field;
import java.util.ArrayList;
import java.util.List;

/**
 * Puts packets into lines, and clients into states, where no run of calls could bring them: a link loses both its
 * lines when it closes, so every answer finds what it answers. The document tells of strays all the same; to test
 * those sentences this looks into the object, so it goes by the names of its inner classes and fields.
 */
final class Stray {
    private Stray() {
    }

    /** Puts a packet before all others in a line of c. */
    static void put(MessageHub hub, int c, boolean up, int type, int id, int value) {
        try {
            Constructor<?> maker = Class.forName("MessageHub$Packet").getDeclaredConstructor(int.class, int.class, int.class);
            maker.setAccessible(true);
            List<Object> line = new ArrayList<>();
            Object row = read(link(hub, c), up ? "up" : "down");
            line.add(maker.newInstance(type, id, value));
            line.addAll((List<?>) row);
            List.class.getMethod("clear").invoke(row);
            for (Object packet : line) {
                List.class.getMethod("add", Object.class).invoke(row, packet);
            }
        } catch (ReflectiveOperationException wrongName) {
            throw new IllegalStateException(wrongName);
        }
    }

    /** Makes c, which has a link, CONNECTED without a CONNACK, so that it is not pumped. */
    static void connectUnpumped(MessageHub hub, int c) {
        try {
            Object link = link(hub, c);
            Field state = link.getClass().getDeclaredField("state");
            state.setAccessible(true);
            state.setInt(link, Scene.CONNECTED);
        } catch (ReflectiveOperationException wrongName) {
            throw new IllegalStateException(wrongName);
        }
    }

    /** Gives the connection with c another window, so that its session is not pumped up to it. */
    static void widenUnpumped(MessageHub hub, int c, int window) {
        try {
            Object connection = ((Object[]) read(read(hub, "broker"), "connections"))[c];
            Field field = connection.getClass().getDeclaredField("window");
            field.setAccessible(true);
            field.setInt(connection, window);
        } catch (ReflectiveOperationException wrongName) {
            throw new IllegalStateException(wrongName);
        }
    }

    private static Object link(MessageHub hub, int c) throws ReflectiveOperationException {
        return ((Object[]) read(hub, "links"))[c];
    }

    private static Object read(Object owner, String name) throws ReflectiveOperationException {
        Field field = owner.getClass().getDeclaredField(name);
        field.setAccessible(true);
        return field.get(owner);
    }
}
