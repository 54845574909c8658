/** Promise 10: what deliver answers, and how the broker and the clients receive what comes over a link. */
public final class DeliverPromiseTest {
    public static void main(String[] args) {
        nothingToDeliver();
        otherLineIsFull();
        connectGoesOn();
        connectWithAnotherWindow();
        connectClean();
        connectOverAnOldConnection();
        exactlyOnceDown();
        lostConnackLeavesHeldIds();
        answersComeBeforePumping();
        windowIsKept();
        Check.finish();
    }

    private static void nothingToDeliver() {
        MessageHub hub = new MessageHub();
        for (int c : new int[] {-1, 0, 1, 2, 3, Integer.MIN_VALUE, Integer.MAX_VALUE}) {
            Check.due("10: nobody or an empty line", hub.deliver(c, Check.UP), 0);
            Check.due("10: nobody or an empty line", hub.deliver(c, Check.DOWN), 0);
        }
        Check.join(hub, 0, 9, 1);
        Check.due("10: empty again", hub.deliver(0, Check.UP), 0);
        Check.due("10: empty again", hub.deliver(0, Check.DOWN), 0);
        hub.leave(0);
        Check.due("10: empty, though it leaves", hub.deliver(0, Check.DOWN), 0);
    }

    private static void otherLineIsFull() {
        MessageHub hub = new MessageHub();
        Check.join(hub, 0, 9, 1);
        for (int n = 0; n < 12; n++) {
            hub.ping(0);
        }
        Check.due("10: up 12, down 0", hub.deliver(0, Check.DOWN), 0);
        hub.deliver(0, Check.UP);
        hub.ping(0);
        Check.due("10: up 12, down 1", hub.deliver(0, Check.DOWN), -1);
        for (int n = 0; n < 11; n++) {
            Check.due("10: down line " + hub.line(0, Check.DOWN), hub.deliver(0, Check.UP), Check.PING);
        }
        Check.due("10: down 12", hub.deliver(0, Check.UP), -1);
        Check.due("10: nothing was done", hub.line(0, Check.UP) * 100 + hub.line(0, Check.DOWN), 112);
        hub.fail(1);
        Check.due("10: down 12, a failure told", hub.deliver(0, Check.UP), -1);
        Check.due("10: no packet came", hub.state(0), 14);
        hub.fail(0);
        Check.due("10: the other way", hub.deliver(0, Check.DOWN), Check.PONG);
        Check.due("10: down 11", hub.deliver(0, Check.UP), Check.PING);
        Check.due("10: up 0", hub.deliver(0, Check.UP), 0);
    }

    /** Client 1 has three messages of value 1 to 3 under way: 1 released, 2 of quality 1 and 3 of quality 2 sent. */
    private static MessageHub threeUnderWay() {
        MessageHub hub = new MessageHub();
        Check.join(hub, 0, 50, 1);
        Check.enterAndWatch(hub, 1, "a", 2);
        for (int n = 1; n <= 4; n++) {
            hub.publish(0, Check.text("a"), n, n % 2 == 0 ? 1 : 2, false);
            while (hub.deliver(0, Check.UP) > 0 || hub.deliver(0, Check.DOWN) > 0) {
                Check.due("10: client 0", hub.state(0), 14);
            }
        }
        Check.due("10: three under way, one queued", hub.session(1), 1 + 8 + 64 * 3);
        hub.deliver(1, Check.DOWN);
        hub.deliver(1, Check.UP);
        return hub;
    }

    private static void connectGoesOn() {
        MessageHub hub = threeUnderWay();
        Check.line("10: under way", hub, 1, Check.DOWN, Check.publication(2, 1, 2), Check.publication(3, 2, 3),
            Check.plain(Check.PUBREL, 1, 0));
        hub.drop(1);
        Check.due("10: connect", hub.connect(1, false, 50, 3, 0), true);
        hub.deliver(1, Check.UP);
        Check.line("10: sent again", hub, 1, Check.DOWN, Check.plain(Check.CONNACK, 0, 1), Check.plain(Check.PUBREL, 1, 0),
            Check.publication(2, 1, 2) + Check.AGAIN, Check.publication(3, 2, 3) + Check.AGAIN);
        Check.settle(hub);
        Check.inbox("10: each once", hub, 1, 1, 2, 3, 4);
        Check.due("10: all are done", hub.session(1), 1);
        Check.due("10: no ID is held", hub.store(1), 0);
    }

    private static void connectWithAnotherWindow() {
        MessageHub hub = threeUnderWay();
        hub.drop(1);
        Check.join(hub, 1, 50, 1);
        hub.deliver(1, Check.DOWN);
        hub.deliver(1, Check.UP);
        Check.due("10: two under way are more than the window", hub.session(1), 1 + 8 + 64 * 2);
        hub.deliver(1, Check.DOWN);
        hub.deliver(1, Check.UP);
        Check.due("10: one under way is the window", hub.session(1), 1 + 8 + 64);
        hub.deliver(1, Check.DOWN);
        hub.deliver(1, Check.UP);
        hub.deliver(1, Check.DOWN);
        hub.deliver(1, Check.UP);
        Check.line("10: then the last of the queue, with the least ID", hub, 1, Check.DOWN, Check.publication(4, 1, 1));
    }

    private static void connectClean() {
        MessageHub hub = threeUnderWay();
        hub.drop(1);
        hub.connect(1, true, 50, 3, 0);
        hub.deliver(1, Check.UP);
        Check.line("10: no session", hub, 1, Check.DOWN, Check.CONNACK);
        Check.due("10: a new session", hub.session(1), 0);
        Check.due("10: client 1 still holds an ID", hub.store(1), 64);
        hub.deliver(1, Check.DOWN);
        Check.due("10: but not behind the CONNACK", hub.store(1), 0);
    }

    private static void connectOverAnOldConnection() {
        MessageHub hub = new MessageHub();
        hub.will(0, Check.text("w"), 5);
        Check.join(hub, 0, 9, 1);
        Check.enter(hub, 0, "w", 1, false);
        Check.enterAndWatch(hub, 1, "w", 0);
        hub.drop(0);
        hub.will(0, 0, 0);
        hub.connect(0, false, 0, 1, 0);
        Check.due("10: no will yet", hub.line(1, Check.DOWN), 0);
        hub.deliver(0, Check.UP);
        Check.line("10: the old will, also for client 0 itself", hub, 0, Check.DOWN,
            Check.plain(Check.CONNACK, 0, 1), Check.publication(5, 1, 1));
        Check.line("10: and for client 1", hub, 1, Check.DOWN, Check.publication(5, 0, 0));
        hub.drop(0);
        hub.connect(0, false, 9, 1, 0);
        hub.deliver(0, Check.UP);
        Check.line("10: expiry 0: the session has ended with the old connection", hub, 0, Check.DOWN, Check.CONNACK);
        Check.due("10: no will with the second", hub.line(1, Check.DOWN), 1);
        MessageHub other = new MessageHub();
        other.will(0, Check.text("w"), 6);
        Check.join(other, 0, 9, 1);
        Check.enter(other, 0, "w", 1, true);
        other.drop(0);
        Check.join(other, 0, 9, 1);
        Check.due("10: NOLOCAL keeps the own will away", other.session(0), 1);
    }

    private static void exactlyOnceDown() {
        MessageHub hub = new MessageHub();
        Check.join(hub, 0, 50, 1);
        Check.enterAndWatch(hub, 1, "a", 2);
        hub.publish(0, Check.text("a"), 5, 2, false);
        hub.deliver(0, Check.UP);
        hub.deliver(1, Check.DOWN);
        Check.line("10: PUBREC", hub, 1, Check.UP, Check.plain(Check.PUBREC, 1, 0));
        hub.drop(1);
        Check.join(hub, 1, 50, 1);
        Check.line("10: again", hub, 1, Check.DOWN, Check.publication(5, 2, 1) + Check.AGAIN);
        hub.deliver(1, Check.DOWN);
        Check.inbox("10: once", hub, 1, 5);
        Check.line("10: PUBREC again", hub, 1, Check.UP, Check.plain(Check.PUBREC, 1, 0));
        hub.deliver(1, Check.UP);
        Check.line("10: PUBREL", hub, 1, Check.DOWN, Check.plain(Check.PUBREL, 1, 0));
        hub.deliver(1, Check.DOWN);
        Check.due("10: held no more", hub.store(1), 0);
        Check.line("10: PUBCOMP", hub, 1, Check.UP, Check.plain(Check.PUBCOMP, 1, 0));
        hub.drop(1);
        Check.join(hub, 1, 50, 1);
        Check.line("10: PUBREL again", hub, 1, Check.DOWN, Check.plain(Check.PUBREL, 1, 0));
        hub.deliver(1, Check.DOWN);
        Check.line("10: PUBCOMP without a held ID", hub, 1, Check.UP, Check.plain(Check.PUBCOMP, 1, 0));
        hub.deliver(1, Check.UP);
        Check.due("10: done", hub.session(1), 1);
    }

    private static void lostConnackLeavesHeldIds() {
        MessageHub hub = new MessageHub();
        Check.join(hub, 0, 50, 1);
        Check.enterAndWatch(hub, 1, "a", 2);
        hub.publish(0, Check.text("a"), 5, 2, false);
        hub.deliver(0, Check.UP);
        hub.deliver(1, Check.DOWN);
        Check.due("10: an ID is held", hub.store(1), 64);
        hub.drop(1);
        hub.connect(1, true, 50, 1, 0);
        hub.deliver(1, Check.UP);
        hub.drop(1);
        Check.join(hub, 1, 50, 1);
        Check.due("10: the CONNACK of the new session was lost", hub.store(1), 64);
        Check.enter(hub, 1, "a", 2, false);
        Check.settle(hub);
        hub.publish(0, Check.text("a"), 6, 2, false);
        Check.settle(hub);
        Check.inbox("10: what has a held ID does not come in", hub, 1, 5);
    }

    private static void answersComeBeforePumping() {
        MessageHub hub = new MessageHub();
        Check.join(hub, 0, 50, 1);
        Check.enter(hub, 0, "a", 2, false);
        hub.publish(0, Check.text("a"), 1, 2, false);
        hub.publish(0, Check.text("a"), 2, 1, false);
        hub.publish(0, Check.text("a"), 3, 1, false);
        hub.deliver(0, Check.UP);
        hub.deliver(0, Check.UP);
        Check.line("10: the copy before the PUBREC", hub, 0, Check.DOWN, Check.publication(1, 2, 1),
            Check.plain(Check.PUBREC, 1, 0), Check.plain(Check.PUBACK, 2, 0));
        hub.deliver(0, Check.DOWN);
        hub.deliver(0, Check.DOWN);
        Check.line("10: a client answers in order", hub, 0, Check.UP,
            Check.plain(Check.PUBREC, 1, 0), Check.plain(Check.PUBREL, 1, 0));
        hub.deliver(0, Check.DOWN);
        Check.due("10: then the third is pumped", hub.packet(0, Check.UP, 2), Check.publication(3, 1, 2));
        hub.deliver(0, Check.UP);
        hub.deliver(0, Check.UP);
        Check.line("10: PUBREL and PUBCOMP", hub, 0, Check.DOWN,
            Check.plain(Check.PUBREL, 1, 0), Check.plain(Check.PUBCOMP, 1, 0));
        hub.deliver(0, Check.DOWN);
        hub.deliver(0, Check.UP);
        hub.deliver(0, Check.UP);
        Check.line("10: PUBACK of the third, then the copy of the second", hub, 0, Check.DOWN,
            Check.plain(Check.PUBCOMP, 1, 0), Check.plain(Check.PUBACK, 2, 0), Check.publication(2, 1, 1));
        Check.settle(hub);
        Check.inbox("10: all", hub, 0, 1, 2, 3);
    }

    private static void windowIsKept() {
        for (int window = 1; window <= 3; window++) {
            MessageHub hub = new MessageHub();
            Check.join(hub, 0, 50, 1);
            Check.join(hub, 1, 50, window);
            Check.enter(hub, 1, "a", 1, false);
            for (int n = 1; n <= 5; n++) {
                hub.publish(0, Check.text("a"), n, 1, false);
                hub.deliver(0, Check.UP);
                hub.deliver(0, Check.DOWN);
            }
            Check.due("10: window " + window, hub.session(1), 1 + 8 * (5 - window) + 64 * window);
            Check.due("10: line with window " + window, hub.line(1, Check.DOWN), window);
            Check.due("10: last ID of window " + window, hub.packet(1, Check.DOWN, window - 1),
                Check.publication(window, 1, window));
            Check.settle(hub);
            Check.inbox("10: in order", hub, 1, 1, 2, 3, 4, 5);
        }
    }
}
