/** Boundary cases of 'Terms, a crash and a failure' and of promises 12 and 13: a test for each sentence. */
public final class CrashBoundariesTest {
    public static void main(String[] args) {
        connectionsGoWithoutWills();
        allLinksClose();
        expiryZeroEnds();
        expiryOneStays();
        countsBecomeTheExpiry();
        runningCountsBeginAnew();
        allElseIsKept();
        crashOfNothing();
        failureOneLosesThePacket();
        failureTwoReceivesIt();
        failureOneAtConnect();
        failureTwoAtConnect();
        failureTwoAtDisconnect();
        failureTwoEndsExpiryZero();
        noFailureIsToldAnyMore();
        onlyPacketsToTheBrokerCount();
        anyClientsPacketCounts();
        failureIsToldInPlaceOfAnother();
        failureIsTakenBack();
        failureStaysToldOverACrash();
        Check.finish();
    }

    /** 'all connections go (without wills)' */
    private static void connectionsGoWithoutWills() {
        MessageHub hub = new MessageHub();
        for (int c = 0; c < 3; c++) {
            hub.will(c, Check.text("w"), 5 + c);
            Check.enterAndWatch(hub, c, "w", 1);
        }
        hub.crash();
        for (int c = 0; c < 3; c++) {
            Check.due("no connection, no link", hub.state(c), 0);
            Check.due("no will", hub.session(c), 1);
        }
        Check.join(hub, 0, 9, 1);
        Check.due("nor when they come again", hub.session(1), 1);
    }

    /** 'their attached links close, and so do all other links' */
    private static void allLinksClose() {
        MessageHub hub = new MessageHub();
        Check.join(hub, 0, 9, 1);
        Scene.fillDown(hub, 0, 2);
        Scene.fillUp(hub, 0, 2);
        Check.join(hub, 1, 9, 1);
        hub.drop(1);
        Check.due("an old connection and a new link", hub.connect(1, false, 9, 1, 0), true);
        Check.due("a link alone", hub.connect(2, false, 9, 1, 0), true);
        hub.crash();
        for (int c = 0; c < 3; c++) {
            Check.due("closed", hub.state(c), 0);
            Check.due("up", hub.line(c, Check.UP), 0);
            Check.due("down", hub.line(c, Check.DOWN), 0);
            Check.due("it may connect", hub.connect(c, false, 9, 1, 0), true);
        }
    }

    /** 'and with expiry 0 it ends' */
    private static void expiryZeroEnds() {
        MessageHub hub = new MessageHub();
        Check.join(hub, 0, 0, 1);
        Check.enter(hub, 0, "a", 1, false);
        Check.join(hub, 1, 0, 1);
        hub.drop(1);
        hub.crash();
        Check.due("attached before", hub.session(0), -1);
        Check.due("not attached before", hub.session(1), -1);
        Check.due("no count", hub.tick(), 0);
        Check.join(hub, 0, 0, 1);
        Check.due("a new session", hub.session(0), 0);
    }

    /** .. but not with the least expiry above it */
    private static void expiryOneStays() {
        MessageHub hub = new MessageHub();
        Check.join(hub, 0, 1, 1);
        Check.enter(hub, 0, "a", 1, false);
        hub.crash();
        Check.due("there", hub.session(0), 1);
        Check.due("one tick", hub.tick(), 1);
        Check.due("ended", hub.session(0), -1);
    }

    /** 'every session's count becomes its expiry' */
    private static void countsBecomeTheExpiry() {
        MessageHub hub = new MessageHub();
        Check.join(hub, 0, 50, 1);
        Check.join(hub, 1, 2, 1);
        Check.join(hub, 2, 2, 1);
        hub.crash();
        Check.due("first tick", hub.tick(), 0);
        Check.due("two at once", hub.tick(), 2);
        for (int n = 2; n < 49; n++) {
            Check.due("tick", hub.tick(), 0);
        }
        Check.due("the fiftieth", hub.tick(), 1);
    }

    /** .. every one, also of a session that had no connection */
    private static void runningCountsBeginAnew() {
        MessageHub hub = new MessageHub();
        Check.join(hub, 0, 3, 1);
        Scene.goAway(hub, 0);
        for (int round = 0; round < 3; round++) {
            Check.due("two of three", hub.tick() + hub.tick(), 0);
            hub.crash();
        }
        Check.due("two of three again", hub.tick() + hub.tick(), 0);
        Check.due("the third", hub.tick(), 1);
    }

    /** 'THE BROKER keeps (also over a crash)' */
    private static void allElseIsKept() {
        MessageHub hub = new MessageHub();
        Check.join(hub, 0, 9, 1);
        Check.join(hub, 1, 9, 1);
        Check.enter(hub, 1, "a", 2, false);
        Scene.hand(hub, 0, "a", 1, 2, true);
        Scene.hand(hub, 0, "a", 2, 1, false);
        Scene.carry(hub, 1, Check.DOWN, Check.PUBLISH);
        Scene.carry(hub, 1, Check.UP, Check.PUBREC);
        hub.publish(1, Check.text("b"), 3, 2, false);
        Scene.carry(hub, 1, Check.UP, Check.PUBLISH);
        int session = hub.session(1);
        Check.due("a subscription, a queue, one released, an ID held", session, 1 + 8 + 64 + 512);
        int store = hub.store(1);
        hub.crash();
        Check.due("the same session", hub.session(1), session);
        Check.due("the same store", hub.store(1), store);
        Check.due("retained", hub.retained(Check.text("a")), 1);
        Check.join(hub, 1, 9, 1);
        Check.line("the released one goes on", hub, 1, Check.DOWN, Check.plain(Check.PUBREL, 1, 0));
        Check.settle(hub);
        Check.inbox("each once", hub, 1, 1, 2);
        Check.due("all done", hub.session(1) * 1000 + hub.store(1), 1000);
    }

    /** A crash where there is nothing */
    private static void crashOfNothing() {
        MessageHub hub = new MessageHub();
        String before = Scene.view(hub);
        hub.crash();
        hub.crash();
        Check.due("nothing changes", Scene.view(hub).equals(before), true);
        Check.due("nothing ends", hub.tick(), 0);
        Check.join(hub, 0, 9, 1);
    }

    private static MessageHub aboutToRetain() {
        MessageHub hub = new MessageHub();
        Check.join(hub, 0, 9, 1);
        hub.publish(0, Check.text("a"), 5, 1, true);
        return hub;
    }

    /** 'the next packet that comes to the broker is lost and it crashes (1)' */
    private static void failureOneLosesThePacket() {
        MessageHub hub = aboutToRetain();
        Check.due("told", hub.fail(1), true);
        Check.due("nothing yet", hub.state(0), 14);
        Scene.carry(hub, 0, Check.UP, Check.PUBLISH);
        Check.due("lost", hub.retained(Check.text("a")), 0);
        Check.due("crashed", hub.state(0), 0);
        Check.due("the session is there", hub.session(0), 0);
    }

    /** 'or it is received as ever and then the broker crashes (2)' */
    private static void failureTwoReceivesIt() {
        MessageHub hub = aboutToRetain();
        Check.due("told", hub.fail(2), true);
        Check.due("nothing yet", hub.state(0), 14);
        Scene.carry(hub, 0, Check.UP, Check.PUBLISH);
        Check.due("received", hub.retained(Check.text("a")), 5);
        Check.due("crashed", hub.state(0), 0);
        Check.due("without a PUBACK", hub.store(0), 1 + 8);
    }

    private static MessageHub aboutToComeAgain() {
        MessageHub hub = new MessageHub();
        hub.will(0, Check.text("w"), 5);
        Check.join(hub, 0, 9, 1);
        Check.enterAndWatch(hub, 1, "w", 1);
        hub.drop(0);
        hub.connect(0, true, 9, 1, 0);
        return hub;
    }

    /** .. a CONNECT that is lost closes no old connection abruptly */
    private static void failureOneAtConnect() {
        MessageHub hub = aboutToComeAgain();
        hub.fail(1);
        Scene.carry(hub, 0, Check.UP, Check.CONNECT);
        Check.due("crashed", hub.state(0), 0);
        Check.due("no will", hub.session(1), 1);
    }

    /** .. one that is received does */
    private static void failureTwoAtConnect() {
        MessageHub hub = aboutToComeAgain();
        hub.fail(2);
        Scene.carry(hub, 0, Check.UP, Check.CONNECT);
        Check.due("crashed", hub.state(0), 0);
        Check.due("the will", hub.session(1), 1 + 64);
        Check.due("a session", hub.session(0), 0);
    }

    /** .. a DISCONNECT: the session goes on for its expiry, without a will either way */
    private static void failureTwoAtDisconnect() {
        for (int when = 1; when <= 2; when++) {
            MessageHub hub = new MessageHub();
            hub.will(0, Check.text("w"), 5);
            Check.join(hub, 0, 1, 1);
            Check.enter(hub, 0, "w", 1, false);
            hub.leave(0);
            hub.fail(when);
            Scene.carry(hub, 0, Check.UP, Check.DISCONNECT);
            Check.due("closed", hub.state(0), 0);
            Check.due("no will", hub.session(0), 1);
            Check.due("its count", hub.tick(), 1);
        }
    }

    /** .. with expiry 0 the session that a CONNECT begins ends at once */
    private static void failureTwoEndsExpiryZero() {
        for (int expiry = 0; expiry <= 1; expiry++) {
            MessageHub hub = new MessageHub();
            hub.connect(0, false, expiry, 1, 0);
            hub.fail(2);
            Scene.carry(hub, 0, Check.UP, Check.CONNECT);
            Check.due("expiry " + expiry, hub.session(0), expiry - 1);
        }
    }

    /** 'then no failure is told any more' */
    private static void noFailureIsToldAnyMore() {
        for (int when = 1; when <= 2; when++) {
            MessageHub hub = aboutToRetain();
            hub.fail(when);
            Scene.carry(hub, 0, Check.UP, Check.PUBLISH);
            Check.join(hub, 0, 9, 1);
            Check.due("CONNECT came", hub.state(0), 14);
            Scene.carry(hub, 0, Check.UP, Check.PUBLISH);
            Check.due("PUBLISH came", hub.state(0), 14);
            Check.due("received", hub.retained(Check.text("a")), 5);
        }
    }

    /** 'the next packet that comes to the broker': what does not come, or comes to a client, is none */
    private static void onlyPacketsToTheBrokerCount() {
        for (int when = 1; when <= 2; when++) {
            MessageHub hub = new MessageHub();
            Check.join(hub, 0, 9, 1);
            Scene.fillDown(hub, 0, 12);
            hub.fail(when);
            Check.due("an empty line", hub.deliver(0, Check.UP), 0);
            Check.due("nobody", hub.deliver(3, Check.UP), 0);
            hub.ping(0);
            Check.due("the other line is full", hub.deliver(0, Check.UP), -1);
            Check.due("to a client", hub.deliver(0, Check.DOWN), Check.PONG);
            Check.due("a tick", hub.tick(), 0);
            Check.due("no crash", hub.state(0), 14);
            Check.due("now one comes", hub.deliver(0, Check.UP), Check.PING);
            Check.due("a crash", hub.state(0), 0);
        }
    }

    /** .. from whatever client */
    private static void anyClientsPacketCounts() {
        for (int c = 0; c < 3; c++) {
            MessageHub hub = new MessageHub();
            for (int s = 0; s < 3; s++) {
                Check.join(hub, s, 9, 1);
            }
            hub.fail(1);
            hub.ping(c);
            Scene.carry(hub, c, Check.UP, Check.PING);
            Check.due("all are closed", hub.state(0) + hub.state(1) + hub.state(2), 0);
        }
    }

    private static void afterFailures(String what, int last, int... told) {
        MessageHub hub = aboutToRetain();
        for (int when : told) {
            hub.fail(when);
        }
        Scene.carry(hub, 0, Check.UP, Check.PUBLISH);
        Check.due(what + ": crash", hub.state(0), last == 0 ? 14 : 0);
        Check.due(what + ": received", hub.retained(Check.text("a")), last == 1 ? 0 : 5);
    }

    /** Promise 13: 'in place of what was told' */
    private static void failureIsToldInPlaceOfAnother() {
        afterFailures("2 in place of 1", 2, 1, 2);
        afterFailures("1 in place of 2", 1, 2, 1);
        afterFailures("1 twice", 1, 1, 1);
        afterFailures("1 in place of none", 1, 0, 1);
    }

    /** Promise 13: 'or none (0)' */
    private static void failureIsTakenBack() {
        afterFailures("none in place of 1", 0, 1, 0);
        afterFailures("none in place of 2", 0, 2, 0);
        afterFailures("none in place of none", 0, 0);
    }

    /** A failure is told until a packet comes; a crash by a call is no packet. */
    private static void failureStaysToldOverACrash() {
        MessageHub hub = new MessageHub();
        hub.fail(1);
        hub.crash();
        hub.connect(0, false, 9, 1, 0);
        Scene.carry(hub, 0, Check.UP, Check.CONNECT);
        Check.due("crashed", hub.state(0), 0);
        Check.due("lost", hub.session(0), -1);
    }
}
