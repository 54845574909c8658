import java.lang.reflect.Constructor;
import java.lang.reflect.Field;
import java.util.ArrayList;
import java.util.List;

/**
 * Puts packets into lines, and objects into states, where no run of calls could bring them (or none short enough for
 * a test): a link loses both its lines when it closes, so every answer finds what it answers. The document tells of
 * strays all the same; to test those sentences this looks into the object, so it goes by the names of its inner
 * classes and fields.
 */
final class Stray {
    private Stray() {
    }

    /** Puts a packet before all others in a line of c. */
    static void put(MessageHub hub, int c, boolean up, int type, int id, int value) {
        try {
            Constructor<?> maker = Class.forName("MessageHub$Packet").getDeclaredConstructor(int.class, int.class, int.class);
            maker.setAccessible(true);
            List<Object> line = new ArrayList<>();
            Object row = read(part(hub, "links", c), up ? "up" : "down");
            line.add(maker.newInstance(type, id, value));
            line.addAll((List<?>) row);
            List.class.getMethod("clear").invoke(row);
            for (Object packet : line) {
                List.class.getMethod("add", Object.class).invoke(row, packet);
            }
        } catch (ReflectiveOperationException wrongName) {
            throw new IllegalStateException(wrongName);
        }
    }

    /** Makes c, which has a link, CONNECTED without a CONNACK, so that it is not pumped. */
    static void connectUnpumped(MessageHub hub, int c) {
        write(part(hub, "links", c), "state", Scene.CONNECTED);
    }

    /** Gives the connection with c another window, so that its session is not pumped up to it. */
    static void widenUnpumped(MessageHub hub, int c, int window) {
        write(part(read(hub, "broker"), "connections", c), "window", window);
    }

    /** Makes the inbox of c count so many values, as if they had come. */
    static void countInbox(MessageHub hub, int c, int values) {
        write(part(hub, "clients", c), "inboxCount", values);
    }

    private static Object part(Object owner, String row, int c) {
        return ((Object[]) read(owner, row))[c];
    }

    private static Object read(Object owner, String name) {
        try {
            return field(owner, name).get(owner);
        } catch (ReflectiveOperationException wrongName) {
            throw new IllegalStateException(wrongName);
        }
    }

    private static void write(Object owner, String name, int value) {
        try {
            field(owner, name).setInt(owner, value);
        } catch (ReflectiveOperationException wrongName) {
            throw new IllegalStateException(wrongName);
        }
    }

    private static Field field(Object owner, String name) throws ReflectiveOperationException {
        Field field = owner.getClass().getDeclaredField(name);
        field.setAccessible(true);
        return field;
    }
}
