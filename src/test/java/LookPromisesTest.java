import java.util.ArrayList;
import java.util.List;

/** Promises 14 to 21: state, session, line, packet, inbox, store, retained, matches. */
public final class LookPromisesTest {
    private static final int[] NOBODY = {-1, 3, Integer.MIN_VALUE, Integer.MAX_VALUE};

    public static void main(String[] args) {
        nobody();
        states();
        sessions();
        lines();
        packets();
        inboxes();
        inboxBeyondHundred();
        stores();
        retainedValues();
        matchesAsTold();
        matchesWrongTexts();
        matchesAllShortTexts();
        zerosAreLeftOut();
        Check.finish();
    }

    private static void nobody() {
        MessageHub hub = new MessageHub();
        for (int c : NOBODY) {
            Check.due("14: state", hub.state(c), -1);
            Check.due("15: session", hub.session(c), -1);
            Check.due("16: line", hub.line(c, Check.UP) + hub.line(c, Check.DOWN), 0);
            Check.due("17: packet", hub.packet(c, Check.UP, 0), 0);
            Check.due("18: inbox", hub.inbox(c, 0), 0);
            Check.due("18: inbox", hub.inbox(c, -1), 0);
            Check.due("19: store", hub.store(c), -1);
        }
    }

    private static void states() {
        MessageHub hub = new MessageHub();
        Check.due("14: closed", hub.state(1), 0);
        hub.connect(1, false, 9, 1, 0);
        Check.due("14: opening", hub.state(1), 1);
        hub.deliver(1, Check.UP);
        Check.due("14: opening, attached", hub.state(1), 1 + 4 + 8);
        hub.deliver(1, Check.DOWN);
        Check.due("14: connected, attached", hub.state(1), 2 + 4 + 8);
        hub.leave(1);
        Check.due("14: leaving, attached", hub.state(1), 3 + 4 + 8);
        hub.drop(1);
        Check.due("14: closed, a connection that is not attached", hub.state(1), 4);
        hub.connect(1, false, 9, 1, 0);
        Check.due("14: opening, with an old connection", hub.state(1), 1 + 4);
        Check.due("14: the others are closed", hub.state(0) + hub.state(2), 0);
    }

    private static void sessions() {
        MessageHub hub = new MessageHub();
        Check.due("15: none", hub.session(0), -1);
        Check.join(hub, 0, 9, 1);
        Check.due("15: empty", hub.session(0), 0);
        Check.enter(hub, 0, "a", 2, false);
        Check.enter(hub, 0, "b", 2, false);
        for (int n = 0; n < 2; n++) {
            hub.publish(0, Check.text("a"), n, 2, false);
            hub.deliver(0, Check.UP);
        }
        Check.due("15: subscriptions, queue, under way, held", hub.session(0), 2 + 8 + 64 + 512 * 2);
    }

    private static void lines() {
        MessageHub hub = new MessageHub();
        Check.join(hub, 1, 9, 1);
        for (int n = 1; n <= 3; n++) {
            hub.ping(1);
            Check.due("16: up line", hub.line(1, Check.UP), n);
            Check.due("16: down line", hub.line(1, Check.DOWN), 0);
        }
        hub.deliver(1, Check.UP);
        Check.due("16: up line", hub.line(1, Check.UP), 2);
        Check.due("16: down line", hub.line(1, Check.DOWN), 1);
        Check.due("16: another client's", hub.line(0, Check.UP), 0);
    }

    private static void packets() {
        MessageHub hub = new MessageHub();
        hub.connect(0, true, 7, 1, 3);
        Check.due("17: CONNECT", hub.packet(0, Check.UP, 0), 1 + 128 + 65536 * 7);
        hub.deliver(0, Check.UP);
        Check.due("17: CONNACK", hub.packet(0, Check.DOWN, 0), 2);
        hub.deliver(0, Check.DOWN);
        hub.publish(0, Check.text("a"), Integer.MAX_VALUE, 2, true);
        hub.publish(0, Check.text("a"), -1, 1, false);
        hub.subscribe(0, Check.text("b"), 2, true);
        hub.unsubscribe(0, Check.text("b"));
        hub.publish(0, Check.text("b"), Integer.MIN_VALUE, 0, false);
        Check.due("17: PUBLISH", hub.packet(0, Check.UP, 0), 3 + 32 + 128 + 256 + 65536L * Integer.MAX_VALUE);
        Check.due("17: a value with its sign", hub.packet(0, Check.UP, 1), 3 + 16 + 512 - 65536L);
        Check.due("17: SUBSCRIBE", hub.packet(0, Check.UP, 2), 8 + 128 + 65536 * 2);
        Check.due("17: UNSUBSCRIBE", hub.packet(0, Check.UP, 3), 10);
        Check.due("17: PUBLISH", hub.packet(0, Check.UP, 4), 3 + 65536L * Integer.MIN_VALUE);
        for (int k : new int[] {5, -1, Integer.MIN_VALUE, Integer.MAX_VALUE}) {
            Check.due("17: packet " + k, hub.packet(0, Check.UP, k), 0);
        }
        Check.due("17: none on the way down", hub.packet(0, Check.DOWN, 0), 0);
    }

    private static void inboxes() {
        MessageHub hub = new MessageHub();
        Check.join(hub, 0, 9, 1);
        Check.enter(hub, 0, "a", 0, false);
        int[] values = {5, 0, -7, Integer.MIN_VALUE, 5};
        for (int value : values) {
            hub.publish(0, Check.text("a"), value, 0, false);
        }
        Check.settle(hub);
        Check.inbox("18: in order, empty ones too", hub, 0, values);
        for (int k : new int[] {5, 99, 100, -2, Integer.MIN_VALUE, Integer.MAX_VALUE}) {
            Check.due("18: none at " + k, hub.inbox(0, k), 0);
        }
        hub.crash();
        Check.inbox("18: kept over a crash", hub, 0, values);
        hub.connect(0, true, 0, 1, 0);
        hub.deliver(0, Check.UP);
        hub.deliver(0, Check.DOWN);
        Check.inbox("18: kept over a new session", hub, 0, values);
    }

    private static void inboxBeyondHundred() {
        MessageHub hub = new MessageHub();
        Check.join(hub, 0, 9, 1);
        for (String filter : new String[] {"a", "+", "#", "a/#"}) {
            Check.enter(hub, 0, filter, 0, false);
        }
        for (int n = 0; n < 27; n++) {
            hub.publish(0, Check.text("a"), 1 + n, 0, false);
            hub.deliver(0, Check.UP);
            for (int copy = 0; copy < 4; copy++) {
                Check.due("18: a copy", hub.deliver(0, Check.DOWN), Check.PUBLISH);
            }
        }
        Check.due("18: all count", hub.inbox(0, -1), 108);
        Check.due("18: the last that is shown", hub.inbox(0, 99), 25);
        Check.due("18: none beyond it", hub.inbox(0, 100), 0);
        Check.due("18: none beyond it", hub.inbox(0, 107), 0);
    }

    private static void stores() {
        MessageHub hub = new MessageHub();
        Check.due("19: empty", hub.store(0), 0);
        hub.publish(0, Check.text("a"), 1, 2, false);
        Check.due("19: one waiting", hub.store(0), 1);
        Check.join(hub, 0, 9, 3);
        Check.due("19: under way", hub.store(0), 1 + 8);
        Check.settle(hub);
        Check.due("19: done", hub.store(0), 0);
        Check.enter(hub, 0, "b", 2, false);
        for (int n = 1; n <= 3; n++) {
            hub.publish(0, Check.text("b"), n, 2, false);
        }
        Check.due("19: two of three under way", hub.store(0), 3 + 8 * 2);
        hub.deliver(0, Check.UP);
        hub.deliver(0, Check.DOWN);
        Check.due("19: an ID is held", hub.store(0), 3 + 8 * 2 + 64);
        hub.deliver(0, Check.DOWN);
        Check.due("19: a released one is under way", hub.store(0), 3 + 8 * 2 + 64);
        Check.settle(hub);
        Check.due("19: all are done", hub.store(0), 0);
    }

    private static void retainedValues() {
        MessageHub hub = new MessageHub();
        Check.join(hub, 0, 9, 3);
        hub.publish(0, Check.text("a/b"), -5, 1, true);
        Check.due("20: not before the broker has it", hub.retained(Check.text("a/b")), 0);
        Check.settle(hub);
        Check.due("20: retained", hub.retained(Check.text("a/b")), -5);
        for (String other : new String[] {"a", "a/", "a/bb", "+/b", "a/+", "#", "A"}) {
            Check.due("20: another text " + other, hub.retained(Check.text(other)), 0);
        }
        Check.due("20: no text", hub.retained(0), 0);
        Check.due("20: no text", hub.retained(-1), 0);
        hub.publish(0, Check.text("a/b"), 0, 2, true);
        Check.settle(hub);
        Check.due("20: taken away", hub.retained(Check.text("a/b")), 0);
    }

    private static void match(String filter, String topic, boolean want) {
        boolean got = new MessageHub().matches(Check.text(filter), Check.text(topic));
        Check.due("21: " + filter + " with " + topic, got, want);
    }

    private static void matchesAsTold() {
        match("a", "a", true);
        match("a", "b", false);
        match("a", "a/", false);
        match("a/#", "a", true);
        match("a/#", "a/", true);
        match("a/#", "a/b/c/d", true);
        match("a/#", "ab", false);
        match("#", "a/b/c/d", true);
        match("#", "/", true);
        match("+", "a", true);
        match("+", "/", false);
        match("+/+", "/", true);
        match("+", "a/b", false);
        match("a/+", "a", false);
        match("a/+", "a/", true);
        match("+/b", "/b", true);
        match("+/#", "a", true);
        match("a/+/#", "a", false);
        match("a//#", "a/", true);
        match("#", "$a", false);
        match("+", "$", false);
        match("+/a", "$/a", false);
        match("$a", "$a", true);
        match("$/#", "$/a", true);
        match("$/+", "$/a", true);
        match("/#", "/$a", true);
        match("+/$a", "a/$a", true);
        match("#", "a/$", true);
        match("abcdefgh", "abcdefgh", true);
        match("abcdefgh", "abcdefgi", false);
        match("abcdef/#", "abcdef", true);
        match("abcdef/#", "abcdef/g", true);
        match("+/+/+/+", "///", true);
        match("+/+/+/#", "a/b/c", true);
        match("+/+/+/#", "a/b", false);
    }

    private static void matchesWrongTexts() {
        for (String wrong : new String[] {"", "A", "a b", "\u00e1", "_", "`", "{", "/\u0001", "a\u0080", ":"}) {
            match(wrong, wrong, false);
            match("#", wrong, false);
            match(wrong, "a", false);
        }
        for (String noFilter : new String[] {"a#", "#a", "#/a", "a+", "+a", "##", "++", "#/", "#/#", "+#"}) {
            match(noFilter, "a", false);
            match(noFilter, "a/a", false);
        }
        match("#", "#", false);
        match("+", "+", false);
        match("a/+", "a/+", false);
        Check.due("21: eight letters beyond the alphabet", new MessageHub().matches(-1, -1), false);
        Check.due("21: the least long", new MessageHub().matches(Long.MIN_VALUE, Long.MIN_VALUE), false);
    }

    private static void matchesAllShortTexts() {
        List<String> texts = new ArrayList<>();
        texts.add("");
        for (int from = 0, length = 1; length <= 4; length++) {
            int to = texts.size();
            for (; from < to; from++) {
                for (char letter : "a/+#$".toCharArray()) {
                    texts.add(texts.get(from) + letter);
                }
            }
        }
        for (String filter : texts) {
            boolean right = HubModel.isFilter(filter);
            for (String topic : texts) {
                boolean want = right && HubModel.isTopic(topic) && HubModel.fits(filter, topic);
                boolean got = new MessageHub().matches(Check.text(filter), Check.text(topic));
                if (got != want) {
                    Check.due("21: " + filter + " with " + topic, got, want);
                }
            }
        }
    }

    /** A long's zero bytes are left out wherever they stand, so these are but other longs for the same text. */
    private static void zerosAreLeftOut() {
        MessageHub hub = new MessageHub();
        long gaps = 0x61002F0000620000L;
        Check.due("21: zeros in a topic", hub.matches(Check.text("a/b"), gaps), true);
        Check.due("21: zeros in a filter", hub.matches(gaps, Check.text("a/b")), true);
        Check.join(hub, 0, 9, 3);
        hub.publish(0, gaps, 5, 1, true);
        Check.settle(hub);
        Check.due("20: the same topic", hub.retained(Check.text("a/b")), 5);
        Check.enter(hub, 0, "a/b", 0, false);
        hub.subscribe(0, gaps, 0, false);
        hub.deliver(0, Check.UP);
        Check.due("7: the same filter", hub.session(0), 1);
    }
}
