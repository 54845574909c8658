/** Promises 11 to 13: tick, crash, fail. */
public final class TimePromisesTest {
    public static void main(String[] args) {
        silenceClosesAttached();
        silenceClosesWithoutLink();
        silenceSparesANewLink();
        packetsBreakTheSilence();
        noKeepAliveNoSilence();
        countsEndSessions();
        closingIsNotCounting();
        ticksGoByNumber();
        willThatIsRefusedIsLost();
        crashKeepsWhatIsKept();
        crashSetsCounts();
        crashOfNothing();
        failureBefore();
        failureAfter();
        failureAtConnect();
        failureIsToldAndTakenBack();
        Check.finish();
    }

    private static MessageHub keeping(int c, int expiry, int keep) {
        MessageHub hub = new MessageHub();
        hub.connect(c, false, expiry, 1, keep);
        hub.deliver(c, Check.UP);
        hub.deliver(c, Check.DOWN);
        return hub;
    }

    private static void silenceClosesAttached() {
        MessageHub hub = keeping(2, 9, 20);
        hub.ping(2);
        for (int n = 0; n < 20; n++) {
            Check.due("11: as long as the keep-alive", hub.tick(), 0);
        }
        Check.due("11: connected", hub.state(2), 14);
        Check.due("11: longer", hub.tick(), 1);
        Check.due("11: closed on both sides", hub.state(2), 0);
        Check.due("11: the lines are empty", hub.line(2, Check.UP), 0);
        Check.due("11: the session stays", hub.session(2), 0);
    }

    private static void silenceClosesWithoutLink() {
        MessageHub hub = keeping(0, 9, 1);
        hub.drop(0);
        Check.due("11: the connection stays", hub.state(0), 4);
        Check.due("11: first tick", hub.tick(), 0);
        Check.due("11: second tick", hub.tick(), 1);
        Check.due("11: no connection", hub.state(0), 0);
    }

    private static void silenceSparesANewLink() {
        MessageHub hub = keeping(0, 9, 1);
        hub.drop(0);
        hub.connect(0, false, 9, 1, 0);
        hub.tick();
        Check.due("11: the old connection is closed", hub.tick(), 1);
        Check.due("11: the new link stays", hub.state(0), 1);
        Check.due("11: with its CONNECT", hub.deliver(0, Check.UP), Check.CONNECT);
        Check.line("11: the session goes on", hub, 0, Check.DOWN, Check.plain(Check.CONNACK, 0, 1));
    }

    private static void packetsBreakTheSilence() {
        MessageHub hub = keeping(0, 9, 2);
        hub.tick();
        hub.tick();
        hub.publish(0, Check.text("a"), 1, 0, false);
        hub.deliver(0, Check.UP);
        Check.due("11: silence 1", hub.tick(), 0);
        Check.due("11: silence 2", hub.tick(), 0);
        hub.drop(0);
        hub.connect(0, false, 9, 1, 2);
        hub.deliver(0, Check.UP);
        Check.due("11: silence 1 again", hub.tick(), 0);
        Check.due("11: silence 2 again", hub.tick(), 0);
        hub.deliver(0, Check.DOWN);
        Check.due("11: what the client receives breaks nothing", hub.tick(), 1);
    }

    private static void noKeepAliveNoSilence() {
        MessageHub hub = keeping(0, 0, 0);
        for (int n = 0; n < 100; n++) {
            Check.due("11: no keep-alive", hub.tick(), 0);
        }
        Check.due("11: still connected", hub.state(0), 14);
    }

    private static void countsEndSessions() {
        MessageHub hub = keeping(0, 50, 0);
        hub.leave(0);
        hub.deliver(0, Check.UP);
        for (int n = 0; n < 49; n++) {
            Check.due("11: count", hub.tick(), 0);
        }
        Check.due("11: still there", hub.session(0), 0);
        Check.due("11: ended", hub.tick(), 1);
        Check.due("11: gone", hub.session(0), -1);
        Check.due("11: nothing to end", hub.tick(), 0);
    }

    private static void closingIsNotCounting() {
        MessageHub hub = keeping(0, 1, 1);
        hub.tick();
        Check.due("11: closed", hub.tick(), 1);
        Check.due("11: the count begins with the next tick", hub.session(0), 0);
        Check.due("11: ended", hub.tick(), 1);
        MessageHub other = keeping(0, 0, 1);
        other.tick();
        Check.due("11: a session that ends by closing does not count", other.tick(), 1);
        Check.due("11: but ends", other.session(0), -1);
    }

    private static void ticksGoByNumber() {
        MessageHub hub = new MessageHub();
        hub.will(1, Check.text("w"), 5);
        Check.join(hub, 0, 1, 1);
        Check.enter(hub, 0, "w", 1, false);
        Check.join(hub, 2, 2, 1);
        Check.enter(hub, 2, "w", 1, false);
        hub.connect(1, false, 9, 1, 1);
        hub.deliver(1, Check.UP);
        hub.tick();
        hub.leave(0);
        hub.deliver(0, Check.UP);
        Check.due("11: session 0 ends by its count, connection 1 by silence", hub.tick(), 2);
        Check.due("11: session 0", hub.session(0), -1);
        Check.line("11: the will for session 2", hub, 2, Check.DOWN, Check.publication(5, 1, 1));
        Check.due("11: under way", hub.session(2), 1 + 64);
    }

    private static void willThatIsRefusedIsLost() {
        MessageHub hub = new MessageHub();
        hub.will(0, Check.text("w"), 9);
        Check.enterAndWatch(hub, 1, "w", 1);
        hub.drop(1);
        hub.connect(0, false, 9, 1, 1);
        hub.deliver(0, Check.UP);
        hub.deliver(0, Check.DOWN);
        for (int n = 1; n <= 6; n++) {
            hub.publish(0, Check.text("w"), n, 1, false);
            hub.deliver(0, Check.UP);
            hub.deliver(0, Check.DOWN);
        }
        hub.tick();
        Check.due("11: closed", hub.tick(), 1);
        Check.due("11: six and no will", hub.session(1), 1 + 8 * 6);
        Check.join(hub, 1, 9, 3);
        Check.settle(hub);
        Check.inbox("11: the will is lost", hub, 1, 1, 2, 3, 4, 5, 6);
    }

    private static void crashKeepsWhatIsKept() {
        MessageHub hub = new MessageHub();
        hub.will(0, Check.text("w"), 9);
        Check.join(hub, 0, 9, 1);
        Check.enter(hub, 0, "#", 2, false);
        hub.publish(0, Check.text("a"), 5, 2, true);
        hub.publish(0, Check.text("b"), 6, 1, false);
        hub.deliver(0, Check.UP);
        hub.connect(1, false, 9, 1, 0);
        Check.join(hub, 2, 0, 1);
        hub.crash();
        for (int c = 0; c < 3; c++) {
            Check.due("12: all links and connections are gone", hub.state(c), 0);
            Check.due("12: and the packets", hub.line(c, Check.UP) + hub.line(c, Check.DOWN), 0);
        }
        Check.due("12: the session stays, without the will", hub.session(0), 1 + 64 + 512);
        Check.due("12: a session of expiry 0 ends", hub.session(2), -1);
        Check.due("12: one that was not begun is not there", hub.session(1), -1);
        Check.due("12: retained", hub.retained(Check.text("a")), 5);
        Check.due("12: the store stays", hub.store(0), 2 + 8 * 2);
        Check.join(hub, 0, 9, 1);
        Check.line("12: the client goes on", hub, 0, Check.UP, Check.publication(5, 2, 1) + Check.AGAIN + Check.MARK,
            Check.publication(6, 1, 2) + Check.AGAIN);
        Check.line("12: the broker goes on", hub, 0, Check.DOWN, Check.publication(5, 2, 1) + Check.AGAIN);
        Check.settle(hub);
        Check.inbox("12: each once", hub, 0, 5, 6);
    }

    private static void crashSetsCounts() {
        MessageHub hub = new MessageHub();
        Check.join(hub, 0, 3, 1);
        Check.join(hub, 1, 4, 1);
        hub.leave(0);
        hub.deliver(0, Check.UP);
        Check.due("12: tick", hub.tick() + hub.tick(), 0);
        hub.crash();
        Check.due("12: the counts begin anew, also where one was running", hub.tick() + hub.tick(), 0);
        Check.due("12: session 0 ends", hub.tick(), 1);
        Check.due("12: session 0", hub.session(0), -1);
        Check.due("12: session 1", hub.session(1), 0);
        Check.due("12: session 1 ends", hub.tick(), 1);
        Check.due("12: session 1", hub.session(1), -1);
    }

    private static void crashOfNothing() {
        MessageHub hub = new MessageHub();
        hub.crash();
        Check.due("12: nothing", hub.session(0), -1);
        Check.due("12: nothing to end", hub.tick(), 0);
        Check.join(hub, 0, 3, 1);
        hub.connect(1, false, 3, 1, 0);
        hub.drop(0);
        hub.crash();
        Check.due("12: a connection without a link goes too", hub.state(0), 0);
        Check.due("12: a link without a connection closes too", hub.state(1), 0);
    }

    private static void failureBefore() {
        MessageHub hub = new MessageHub();
        Check.join(hub, 0, 9, 1);
        Check.enter(hub, 0, "a", 0, false);
        hub.publish(0, Check.text("a"), 5, 1, true);
        Check.due("13: fail", hub.fail(1), true);
        hub.tick();
        Check.due("13: nothing happens yet", hub.state(0), 14);
        Check.due("13: the type of the packet that is lost", hub.deliver(0, Check.UP), Check.PUBLISH);
        Check.due("13: crashed", hub.state(0), 0);
        Check.due("13: it was not received", hub.retained(Check.text("a")), 0);
        Check.join(hub, 0, 9, 1);
        Check.due("13: no failure any more", hub.deliver(0, Check.UP), Check.PUBLISH);
        Check.due("13: received", hub.retained(Check.text("a")), 5);
        Check.due("13: connected", hub.state(0), 14);
    }

    private static void failureAfter() {
        MessageHub hub = new MessageHub();
        Check.join(hub, 0, 9, 1);
        hub.publish(0, Check.text("a"), 5, 1, true);
        Check.due("13: fail", hub.fail(2), true);
        Check.due("13: the type", hub.deliver(0, Check.UP), Check.PUBLISH);
        Check.due("13: crashed", hub.state(0), 0);
        Check.due("13: it was received", hub.retained(Check.text("a")), 5);
        Check.due("13: the PUBACK is lost", hub.store(0), 1 + 8);
        Check.join(hub, 0, 9, 1);
        Check.settle(hub);
        Check.due("13: no failure any more", hub.state(0), 14);
    }

    private static void failureAtConnect() {
        MessageHub hub = new MessageHub();
        hub.connect(0, false, 9, 1, 0);
        hub.fail(1);
        Check.due("13: CONNECT", hub.deliver(0, Check.UP), Check.CONNECT);
        Check.due("13: no session", hub.session(0), -1);
        hub.connect(0, false, 9, 1, 0);
        hub.fail(2);
        Check.due("13: CONNECT", hub.deliver(0, Check.UP), Check.CONNECT);
        Check.due("13: crashed", hub.state(0), 0);
        Check.due("13: a session", hub.session(0), 0);
        hub.connect(1, false, 0, 1, 0);
        hub.fail(2);
        hub.deliver(1, Check.UP);
        Check.due("13: a session of expiry 0 ends at once", hub.session(1), -1);
    }

    private static void failureIsToldAndTakenBack() {
        MessageHub hub = new MessageHub();
        for (int wrong : new int[] {-1, 3, Integer.MIN_VALUE, Integer.MAX_VALUE}) {
            Check.due("13: fail " + wrong, hub.fail(wrong), false);
        }
        Check.join(hub, 0, 9, 1);
        hub.fail(1);
        Check.due("13: a wrong number changes nothing", hub.fail(3), false);
        Check.due("13: none", hub.fail(0), true);
        hub.ping(0);
        hub.deliver(0, Check.UP);
        Check.due("13: taken back", hub.state(0), 14);
        hub.fail(1);
        hub.fail(2);
        hub.deliver(0, Check.DOWN);
        Check.due("13: what comes to a client does not count", hub.state(0), 14);
        hub.crash();
        hub.connect(0, false, 9, 1, 0);
        Check.due("13: a failure stays told over a crash of another cause", hub.deliver(0, Check.UP), Check.CONNECT);
        Check.due("13: it was the one told last", hub.state(0) * 10 + hub.session(0), 0);
        Check.join(hub, 0, 9, 1);
        hub.fail(1);
        Check.due("13: refused", hub.fail(-1), false);
        hub.ping(0);
        hub.deliver(0, Check.UP);
        Check.due("13: still told", hub.state(0), 0);
    }
}
