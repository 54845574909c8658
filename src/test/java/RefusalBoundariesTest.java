/**
 * 'A call that is refused changes nothing.': for promises 2 to 9 and 13 each reason for which the call is refused,
 * at the last number that is taken and the first that is not, on both sides.
 */
public final class RefusalBoundariesTest {
    private static final long TOPIC = Check.text("a");
    private static final String[] NO_TOPICS = {"+", "#", "a/+", "A", "a b", "\u00ff", "`", "{", ":", "."};
    private static final String[] NO_FILTERS = {"a+", "+a", "a#", "#/a", "##", "A", "a b", "\u00ff", "`", "{", ":", "."};
    private static final int[] NO_QUALITIES = {-1, 3, Integer.MIN_VALUE, Integer.MAX_VALUE};
    private static final long[] NO_TEXTS = {-1, Long.MIN_VALUE, Long.MAX_VALUE};

    public static void main(String[] args) {
        willOfNobody();
        willWithoutATopic();
        connectOfNobody();
        connectWhenNotClosed();
        connectWithAWrongExpiry();
        connectWithAWrongWindow();
        connectWithAWrongKeepAlive();
        dropOfNobody();
        dropWithoutALink();
        sendingOfNobody();
        sendingWhenNotConnected();
        sendingIntoAFullLine();
        subscribeWithoutAFilter();
        unsubscribeWithoutAFilter();
        subscribeWithAWrongQuality();
        publishOfNobody();
        publishWithoutATopic();
        publishWithAWrongQuality();
        publishQualityZeroWhenNotConnected();
        publishIntoAFullStore();
        publishIntoAFullLine();
        failWithAWrongNumber();
        Check.finish();
    }

    /** A run that has something of everything: client 2 hears all, client 1 is gone, client 0 has a will and is closed. */
    private static void settled(MessageHub hub) {
        hub.will(0, Check.text("w"), 5);
        Check.enterAndWatch(hub, 2, "#", 2);
        Check.join(hub, 1, 30, 1);
        Check.enter(hub, 1, "a/#", 1, true);
        Scene.hand(hub, 1, "d", 4, 1, true);
        Scene.goAway(hub, 1);
        hub.tick();
        hub.fail(2);
    }

    /** .. and client 0 in a state, its connection having a keep-alive; no failure is told. */
    private static Twins.Way inState(int state) {
        return hub -> {
            settled(hub);
            hub.fail(0);
            if (state != Scene.CLOSED) {
                Check.due("connect", hub.connect(0, false, 9, 2, 20), true);
            }
            if (state >= Scene.CONNECTED) {
                Scene.carry(hub, 0, Check.UP, Check.CONNECT);
                Scene.carry(hub, 0, Check.DOWN, Check.CONNACK);
                Check.enter(hub, 0, "b", 1, true);
            }
            if (state == Scene.LEAVING) {
                Check.due("leave", hub.leave(0), true);
            }
            Check.due("some silence", hub.tick(), 0);
            hub.fail(2);
        };
    }

    /** .. and so many packets in the up line of client 0, which is connected. */
    private static Twins.Way withUpLine(int packets) {
        return hub -> {
            inState(Scene.CONNECTED).go(hub);
            Scene.fillUp(hub, 0, packets);
        };
    }

    /** .. and so many messages in the store of client 0, which is in a state. */
    private static Twins.Way withStore(int state, int messages) {
        return hub -> {
            inState(state).go(hub);
            for (int n = 0; n < messages; n++) {
                Check.due("publish", hub.publish(0, Check.text("c"), 20 + n, 1 + n % 2, false), true);
            }
        };
    }

    /** Promise 2: 'when there is no client c' */
    private static void willOfNobody() {
        for (int c : Scene.NOBODY) {
            Twins.refused("2: will of " + c, RefusalBoundariesTest::settled, hub -> hub.will(c, TOPIC, 7));
            Twins.refused("2: no will of " + c, RefusalBoundariesTest::settled, hub -> hub.will(c, 0, 7));
        }
        for (int c = 0; c <= 2; c += 2) {
            int last = c;
            Twins.taken("2: will of " + c, RefusalBoundariesTest::settled, hub -> hub.will(last, TOPIC, 7));
        }
    }

    /** Promise 2: 'or topic is neither 0 nor a topic' */
    private static void willWithoutATopic() {
        for (int state = Scene.CLOSED; state <= Scene.LEAVING; state++) {
            Twins.Way way = inState(state);
            for (String text : NO_TOPICS) {
                Twins.refused("2: will with " + text, way, hub -> hub.will(0, Check.text(text), 7));
            }
            for (long text : NO_TEXTS) {
                Twins.refused("2: will with " + text, way, hub -> hub.will(0, text, 7));
            }
            Twins.taken("2: will with a topic", way, hub -> hub.will(0, Check.text("$/09az"), Integer.MIN_VALUE));
            Twins.taken("2: no will", way, hub -> hub.will(0, 0, Integer.MAX_VALUE));
        }
    }

    /** Promise 3: 'when there is no c' */
    private static void connectOfNobody() {
        for (int c : Scene.NOBODY) {
            Twins.refused("3: connect of " + c, RefusalBoundariesTest::settled, hub -> hub.connect(c, true, 1, 1, 1));
        }
        Twins.taken("3: connect of 0", RefusalBoundariesTest::settled, hub -> hub.connect(0, true, 1, 1, 1));
        Twins.taken("3: connect of 2", hub -> { }, hub -> hub.connect(2, true, 1, 1, 1));
    }

    /** Promise 3: 'it is not closed' */
    private static void connectWhenNotClosed() {
        for (int state = Scene.OPENING; state <= Scene.LEAVING; state++) {
            Twins.refused("3: connect in state " + state, inState(state), hub -> hub.connect(0, true, 1, 1, 1));
        }
        Twins.taken("3: connect when closed", inState(Scene.CLOSED), hub -> hub.connect(0, true, 1, 1, 1));
        Twins.taken("3: connect when dropped", hub -> {
            inState(Scene.CONNECTED).go(hub);
            hub.drop(0);
        }, hub -> hub.connect(0, true, 1, 1, 1));
    }

    private static void connectWith(String what, int expiry, int window, int keep, boolean want) {
        if (want) {
            Twins.taken(what, inState(Scene.CLOSED), hub -> hub.connect(0, false, expiry, window, keep));
        } else {
            Twins.refused(what, inState(Scene.CLOSED), hub -> hub.connect(0, false, expiry, window, keep));
        }
    }

    /** Promise 3: 'expiry is not 0 .. 50' */
    private static void connectWithAWrongExpiry() {
        for (int expiry : new int[] {-1, 51, Integer.MIN_VALUE, Integer.MAX_VALUE}) {
            connectWith("3: expiry " + expiry, expiry, 1, 0, false);
        }
        connectWith("3: expiry 0", 0, 1, 0, true);
        connectWith("3: expiry 50", 50, 1, 0, true);
    }

    /** Promise 3: 'window not 1 .. 3' */
    private static void connectWithAWrongWindow() {
        for (int window : new int[] {0, -1, 4, Integer.MIN_VALUE, Integer.MAX_VALUE}) {
            connectWith("3: window " + window, 1, window, 0, false);
        }
        connectWith("3: window 1", 1, 1, 0, true);
        connectWith("3: window 3", 1, 3, 0, true);
    }

    /** Promise 3: 'or keep (the keep-alive; 0: none) not 0 .. 20' */
    private static void connectWithAWrongKeepAlive() {
        for (int keep : new int[] {-1, 21, Integer.MIN_VALUE, Integer.MAX_VALUE}) {
            connectWith("3: keep " + keep, 1, 1, keep, false);
        }
        connectWith("3: keep 0", 1, 1, 0, true);
        connectWith("3: keep 20", 1, 1, 20, true);
    }

    /** Promise 4: 'when there is no c' */
    private static void dropOfNobody() {
        for (int c : Scene.NOBODY) {
            Twins.refused("4: drop of " + c, inState(Scene.CONNECTED), hub -> hub.drop(c));
        }
        Twins.taken("4: drop of 0", inState(Scene.CONNECTED), hub -> hub.drop(0));
        Twins.taken("4: drop of 2", inState(Scene.CONNECTED), hub -> hub.drop(2));
    }

    /** Promise 4: 'or it has no link' */
    private static void dropWithoutALink() {
        Twins.refused("4: drop when closed", inState(Scene.CLOSED), hub -> hub.drop(0));
        Twins.refused("4: drop with a connection, but no link", hub -> {
            inState(Scene.CONNECTED).go(hub);
            hub.drop(0);
        }, hub -> hub.drop(0));
        for (int state = Scene.OPENING; state <= Scene.LEAVING; state++) {
            Twins.taken("4: drop in state " + state, inState(state), hub -> hub.drop(0));
        }
    }

    private static Twins.Call[] sendings(int c) {
        return new Twins.Call[] {hub -> hub.leave(c), hub -> hub.ping(c), hub -> hub.subscribe(c, TOPIC, 1, false),
            hub -> hub.unsubscribe(c, TOPIC), hub -> hub.publish(c, TOPIC, 7, 0, true)};
    }

    private static final String[] SENDINGS = {"5: leave", "6: ping", "7: subscribe", "8: unsubscribe", "9: publish"};

    private static void sendingsRefused(String what, Twins.Way way, int c) {
        Twins.Call[] calls = sendings(c);
        for (int n = 0; n < calls.length; n++) {
            Twins.refused(SENDINGS[n] + " " + what, way, calls[n]);
        }
    }

    private static void sendingsTaken(String what, Twins.Way way, int c) {
        Twins.Call[] calls = sendings(c);
        for (int n = 0; n < calls.length; n++) {
            Twins.taken(SENDINGS[n] + " " + what, way, calls[n]);
        }
    }

    /** Promises 5 to 9: 'when there is no c' */
    private static void sendingOfNobody() {
        for (int c : Scene.NOBODY) {
            sendingsRefused("of " + c, inState(Scene.CONNECTED), c);
        }
        sendingsTaken("of 0", inState(Scene.CONNECTED), 0);
        sendingsTaken("of 2", inState(Scene.CONNECTED), 2);
    }

    /** Promises 5 to 9: 'it is not connected' */
    private static void sendingWhenNotConnected() {
        sendingsRefused("when closed", inState(Scene.CLOSED), 0);
        sendingsRefused("when opening", inState(Scene.OPENING), 0);
        sendingsRefused("when leaving", inState(Scene.LEAVING), 0);
        sendingsRefused("before the CONNACK is received", hub -> {
            inState(Scene.OPENING).go(hub);
            hub.fail(0);
            Scene.carry(hub, 0, Check.UP, Check.CONNECT);
        }, 0);
        sendingsRefused("when dropped", hub -> {
            inState(Scene.CONNECTED).go(hub);
            hub.drop(0);
        }, 0);
    }

    /** Promises 5 to 9: 'or its up line has 12 packets or more' */
    private static void sendingIntoAFullLine() {
        sendingsTaken("behind 11", withUpLine(11), 0);
        sendingsRefused("behind 12", withUpLine(12), 0);
        sendingsTaken("when another's line is full", hub -> {
            inState(Scene.CONNECTED).go(hub);
            Scene.fillUp(hub, 2, 12);
        }, 0);
    }

    /** Promise 7: 'when filter is no filter' */
    private static void subscribeWithoutAFilter() {
        Twins.Way way = inState(Scene.CONNECTED);
        for (String text : NO_FILTERS) {
            Twins.refused("7: subscribe " + text, way, hub -> hub.subscribe(0, Check.text(text), 1, false));
        }
        for (long text : NO_TEXTS) {
            Twins.refused("7: subscribe " + text, way, hub -> hub.subscribe(0, text, 1, false));
        }
        Twins.refused("7: subscribe no text", way, hub -> hub.subscribe(0, 0, 1, false));
        Twins.taken("7: subscribe", way, hub -> hub.subscribe(0, Check.text("+/$/09/#"), 1, false));
    }

    /** Promise 8: 'or when filter is no filter' */
    private static void unsubscribeWithoutAFilter() {
        Twins.Way way = inState(Scene.CONNECTED);
        for (String text : NO_FILTERS) {
            Twins.refused("8: unsubscribe " + text, way, hub -> hub.unsubscribe(0, Check.text(text)));
        }
        for (long text : NO_TEXTS) {
            Twins.refused("8: unsubscribe " + text, way, hub -> hub.unsubscribe(0, text));
        }
        Twins.refused("8: unsubscribe no text", way, hub -> hub.unsubscribe(0, 0));
        Twins.taken("8: unsubscribe", way, hub -> hub.unsubscribe(0, Check.text("+/$/09/#")));
    }

    /** Promise 7: 'or quality is not 0 .. 2' */
    private static void subscribeWithAWrongQuality() {
        Twins.Way way = inState(Scene.CONNECTED);
        for (int quality : NO_QUALITIES) {
            Twins.refused("7: quality " + quality, way, hub -> hub.subscribe(0, TOPIC, quality, false));
        }
        Twins.taken("7: quality 0", way, hub -> hub.subscribe(0, TOPIC, 0, false));
        Twins.taken("7: quality 2", way, hub -> hub.subscribe(0, TOPIC, 2, false));
    }

    /** Promise 9: 'when there is no c', for quality 1 and 2 */
    private static void publishOfNobody() {
        for (int quality = 1; quality <= 2; quality++) {
            int q = quality;
            for (int c : Scene.NOBODY) {
                Twins.refused("9: publish of " + c, inState(Scene.CONNECTED), hub -> hub.publish(c, TOPIC, 7, q, true));
            }
            Twins.taken("9: publish of 0", inState(Scene.CONNECTED), hub -> hub.publish(0, TOPIC, 7, q, true));
            Twins.taken("9: publish of 2", inState(Scene.CONNECTED), hub -> hub.publish(2, TOPIC, 7, q, true));
        }
    }

    /** Promise 9: 'topic is no topic' */
    private static void publishWithoutATopic() {
        Twins.Way way = inState(Scene.CONNECTED);
        for (int quality = 0; quality <= 2; quality++) {
            int q = quality;
            for (String text : NO_TOPICS) {
                Twins.refused("9: publish " + text, way, hub -> hub.publish(0, Check.text(text), 7, q, true));
            }
            for (long text : NO_TEXTS) {
                Twins.refused("9: publish " + text, way, hub -> hub.publish(0, text, 7, q, true));
            }
            Twins.refused("9: publish without topic", way, hub -> hub.publish(0, 0, 7, q, true));
            Twins.taken("9: publish", way, hub -> hub.publish(0, Check.text("$/09az//"), 7, q, true));
        }
    }

    /** Promise 9: 'quality is not 0 .. 2' */
    private static void publishWithAWrongQuality() {
        for (int state = Scene.CLOSED; state <= Scene.LEAVING; state++) {
            Twins.Way way = inState(state);
            for (int quality : NO_QUALITIES) {
                Twins.refused("9: quality " + quality, way, hub -> hub.publish(0, TOPIC, 7, quality, true));
            }
            if (state == Scene.CONNECTED) {
                Twins.taken("9: quality 0", way, hub -> hub.publish(0, TOPIC, 7, 0, true));
            }
            Twins.taken("9: quality 1", way, hub -> hub.publish(0, TOPIC, 7, 1, true));
            Twins.taken("9: quality 2", way, hub -> hub.publish(0, TOPIC, 7, 2, true));
        }
    }

    /** Promise 9: 'for quality 0 also as leave'; 'otherwise' the client need not be connected */
    private static void publishQualityZeroWhenNotConnected() {
        for (int state : new int[] {Scene.CLOSED, Scene.OPENING, Scene.LEAVING}) {
            Twins.refused("9: quality 0 in state " + state, inState(state), hub -> hub.publish(0, TOPIC, 7, 0, true));
            Twins.taken("9: quality 1 in state " + state, inState(state), hub -> hub.publish(0, TOPIC, 7, 1, true));
        }
    }

    /** Promise 9: 'otherwise when the store has 4 messages' */
    private static void publishIntoAFullStore() {
        for (int state = Scene.CLOSED; state <= Scene.LEAVING; state++) {
            for (int quality = 1; quality <= 2; quality++) {
                int q = quality;
                Twins.taken("9: behind 3 in state " + state, withStore(state, 3), hub -> hub.publish(0, TOPIC, 7, q, true));
                Twins.refused("9: behind 4 in state " + state, withStore(state, 4), hub -> hub.publish(0, TOPIC, 7, q, true));
            }
        }
        Twins.taken("9: quality 0 behind 4", withStore(Scene.CONNECTED, 4), hub -> hub.publish(0, TOPIC, 7, 0, true));
    }

    /** Promise 9: 'or its up line 12 packets or more', also when it is leaving */
    private static void publishIntoAFullLine() {
        for (int quality = 0; quality <= 2; quality++) {
            int q = quality;
            Twins.taken("9: behind 11", withUpLine(11), hub -> hub.publish(0, TOPIC, 7, q, true));
            Twins.refused("9: behind 12", withUpLine(12), hub -> hub.publish(0, TOPIC, 7, q, true));
        }
        for (int packets = 10; packets <= 11; packets++) {
            int others = packets;
            Twins.Way leaving = hub -> {
                withUpLine(others).go(hub);
                Check.due("leave", hub.leave(0), true);
            };
            for (int quality = 1; quality <= 2; quality++) {
                int q = quality;
                if (packets == 10) {
                    Twins.taken("9: leaving, 11 packets", leaving, hub -> hub.publish(0, TOPIC, 7, q, true));
                } else {
                    Twins.refused("9: leaving, 12 packets", leaving, hub -> hub.publish(0, TOPIC, 7, q, true));
                }
            }
        }
    }

    /** Promise 13: 'False for another number.' */
    private static void failWithAWrongNumber() {
        for (int told = 0; told <= 2; told++) {
            int before = told;
            Twins.Way way = hub -> {
                withUpLine(1).go(hub);
                hub.fail(before);
            };
            for (int wrong : new int[] {-1, 3, Integer.MIN_VALUE, Integer.MAX_VALUE}) {
                Twins.refused("13: fail " + wrong, way, hub -> hub.fail(wrong));
            }
            for (int right = 0; right <= 2; right++) {
                int when = right;
                Twins.taken("13: fail " + when, way, hub -> hub.fail(when));
            }
        }
    }
}
