import java.nio.charset.StandardCharsets;

/** What the tests share: counting wrong answers, texts as longs, packets as numbers, and common runs of calls. */
final class Check {
    static final int CONNECT = 1;
    static final int CONNACK = 2;
    static final int PUBLISH = 3;
    static final int PUBACK = 4;
    static final int PUBREC = 5;
    static final int PUBREL = 6;
    static final int PUBCOMP = 7;
    static final int SUBSCRIBE = 8;
    static final int SUBACK = 9;
    static final int UNSUBSCRIBE = 10;
    static final int UNSUBACK = 11;
    static final int PING = 12;
    static final int PONG = 13;
    static final int DISCONNECT = 14;

    static final boolean UP = true;
    static final boolean DOWN = false;

    private static int wrong = 0;

    private Check() {
    }

    static void due(String what, long got, long want) {
        if (got != want) {
            wrong++;
            System.out.println(what + " answered " + got + ", due is " + want);
        }
    }

    static void due(String what, boolean got, boolean want) {
        due(what, got ? 1 : 0, want ? 1 : 0);
    }

    /** Ends the test: exit code 1 if an answer was wrong. */
    static void finish() {
        System.out.println(wrong == 0 ? "all answers are as due" : wrong + " answers are not as due");
        if (wrong != 0) {
            System.exit(1);
        }
    }

    static long text(String text) {
        long number = 0;
        for (byte letter : text.getBytes(StandardCharsets.ISO_8859_1)) {
            number = number << 8 | letter & 255;
        }
        return number;
    }

    /** The number of a packet that has neither quality nor marks. */
    static long plain(int type, int id, int value) {
        return type + 256L * id + 65536L * value;
    }

    static long publication(int value, int quality, int id) {
        return PUBLISH + 16L * quality + 256L * id + 65536L * value;
    }

    static final long AGAIN = 64;
    static final long MARK = 128;

    /** Connects c (not clean, no keep-alive) and delivers CONNECT and CONNACK. */
    static void join(MessageHub hub, int c, int expiry, int window) {
        due("join: connect", hub.connect(c, false, expiry, window, 0), true);
        due("join: deliver up", hub.deliver(c, UP), CONNECT);
        due("join: deliver down", hub.deliver(c, DOWN), CONNACK);
    }

    /** Subscribes c and delivers SUBSCRIBE and SUBACK. */
    static void enter(MessageHub hub, int c, String filter, int quality, boolean noLocal) {
        due("enter: subscribe", hub.subscribe(c, text(filter), quality, noLocal), true);
        due("enter: deliver up", hub.deliver(c, UP), SUBSCRIBE);
        due("enter: deliver down", hub.deliver(c, DOWN), SUBACK);
    }

    /** Lets c join with a long expiry and window 3, and subscribe to what the test wants to watch. */
    static void enterAndWatch(MessageHub hub, int c, String filter, int quality) {
        join(hub, c, 50, 3);
        enter(hub, c, filter, quality, false);
    }

    /** Delivers all that is in the lines, and what comes of it, until nothing moves; then the lines must be empty. */
    static void settle(MessageHub hub) {
        boolean moved = true;
        for (int round = 0; round < 1000 && moved; round++) {
            moved = false;
            for (int c = 0; c < 3; c++) {
                moved |= hub.deliver(c, DOWN) > 0;
                moved |= hub.deliver(c, UP) > 0;
            }
        }
        for (int c = 0; c < 3; c++) {
            due("settle: line up", hub.line(c, UP), 0);
            due("settle: line down", hub.line(c, DOWN), 0);
        }
    }

    /** Looks at the whole line of c against the packets that are due. */
    static void line(String what, MessageHub hub, int c, boolean up, long... packets) {
        due(what + ": length", hub.line(c, up), packets.length);
        for (int k = 0; k < packets.length; k++) {
            due(what + ": packet " + k, hub.packet(c, up, k), packets[k]);
        }
    }

    static void inbox(String what, MessageHub hub, int c, int... values) {
        due(what + ": count", hub.inbox(c, -1), values.length);
        for (int k = 0; k < values.length; k++) {
            due(what + ": value " + k, hub.inbox(c, k), values[k]);
        }
    }
}
