/** What the tests of boundary cases share: ways to come to a boundary, and all that can be seen of an object as one text. */
final class Scene {
    static final int[] NOBODY = {-1, 3, Integer.MIN_VALUE, Integer.MAX_VALUE};
    static final int CLOSED = 0;
    static final int OPENING = 1;
    static final int CONNECTED = 2;
    static final int LEAVING = 3;
    private static final String[] TOPICS = {"a", "b", "c", "d", "e", "w", "a/b", "$a"};

    private Scene() {
    }

    /** Delivers one packet, which must be of this type. */
    static void carry(MessageHub hub, int c, boolean up, int type) {
        Check.due("carry " + (up ? "up" : "down"), hub.deliver(c, up), type);
    }

    /** Brings c, which is closed, into a state; a connection has no keep-alive and expiry 50. */
    static void bring(MessageHub hub, int c, int state) {
        if (state == OPENING) {
            Check.due("bring: connect", hub.connect(c, false, 50, 1, 0), true);
        } else if (state != CLOSED) {
            Check.join(hub, c, 50, 1);
        }
        if (state == LEAVING) {
            Check.due("bring: leave", hub.leave(c), true);
        }
    }

    /** Connects c with a keep-alive and delivers CONNECT and CONNACK. */
    static void joinKeeping(MessageHub hub, int c, int expiry, int keep) {
        Check.due("join: connect", hub.connect(c, false, expiry, 1, keep), true);
        carry(hub, c, Check.UP, Check.CONNECT);
        carry(hub, c, Check.DOWN, Check.CONNACK);
    }

    /** Lets c leave, and the broker hear of it. */
    static void goAway(MessageHub hub, int c) {
        Check.due("go away: leave", hub.leave(c), true);
        carry(hub, c, Check.UP, Check.DISCONNECT);
    }

    /** PINGs of c, which is connected, until its up line has so many packets. */
    static void fillUp(MessageHub hub, int c, int packets) {
        for (int n = hub.line(c, Check.UP); n < packets; n++) {
            Check.due("fill up: ping", hub.ping(c), true);
        }
        Check.due("fill up: line", hub.line(c, Check.UP), packets);
    }

    /** PONGs for c, whose up line is empty, until its down line has so many packets. */
    static void fillDown(MessageHub hub, int c, int packets) {
        for (int n = hub.line(c, Check.DOWN); n < packets; n++) {
            Check.due("fill down: ping", hub.ping(c), true);
            carry(hub, c, Check.UP, Check.PING);
        }
        Check.due("fill down: line", hub.line(c, Check.DOWN), packets);
    }

    /** Publishes for c, which has no subscription of its own, and delivers all that it takes until c is done with it. */
    static void hand(MessageHub hub, int c, String topic, int value, int quality, boolean retain) {
        Check.due("hand: publish", hub.publish(c, Check.text(topic), value, quality, retain), true);
        carry(hub, c, Check.UP, Check.PUBLISH);
        if (quality == 1) {
            carry(hub, c, Check.DOWN, Check.PUBACK);
        } else if (quality == 2) {
            carry(hub, c, Check.DOWN, Check.PUBREC);
            carry(hub, c, Check.UP, Check.PUBREL);
            carry(hub, c, Check.DOWN, Check.PUBCOMP);
        }
    }

    /** Hands so many messages of quality 1 in, of value 1 and up. */
    static void handMany(MessageHub hub, int c, String topic, int messages) {
        for (int n = 1; n <= messages; n++) {
            hand(hub, c, topic, n, 1, false);
        }
    }

    /** All that the calls that only look can tell of the object. */
    static String view(MessageHub hub) {
        StringBuilder text = new StringBuilder();
        for (int c = 0; c < 3; c++) {
            text.append("client ").append(c).append(": ").append(hub.state(c)).append(' ').append(hub.session(c));
            text.append(' ').append(hub.store(c)).append(" inbox");
            int values = hub.inbox(c, -1);
            for (int k = 0; k < values; k++) {
                text.append(' ').append(hub.inbox(c, k));
            }
            viewLine(text.append(" up"), hub, c, Check.UP);
            viewLine(text.append(" down"), hub, c, Check.DOWN);
            text.append('\n');
        }
        for (String topic : TOPICS) {
            text.append(hub.retained(Check.text(topic))).append(' ');
        }
        return text.toString();
    }

    private static void viewLine(StringBuilder text, MessageHub hub, int c, boolean up) {
        int packets = hub.line(c, up);
        for (int k = 0; k < packets; k++) {
            text.append(' ').append(hub.packet(c, up, k));
        }
    }
}
