/** Promise 9, and how messages of each quality come from a client to the broker and on to the sessions. */
public final class PublishPromisesTest {
    public static void main(String[] args) {
        qualityZeroIsSent();
        qualityZeroIsRefused();
        storeIsPumped();
        storeIsRefused();
        storeOutlivesLinks();
        newSessionStartsOver();
        twoSentStartOver();
        answersGoById();
        copiesOfQualityZeroAreLost();
        fullSessionRefuses();
        refusedMessageIsNotRetained();
        refusalLetsTheNextGo();
        noLocalNeedsNoRoom();
        onceHeldIsNotAcceptedAgain();
        retainedAreReplaced();
        Check.finish();
    }

    private static void qualityZeroIsSent() {
        MessageHub hub = new MessageHub();
        Check.join(hub, 0, 9, 1);
        Check.due("9: publish", hub.publish(0, Check.text("a"), Integer.MIN_VALUE, 0, true), true);
        Check.due("9: publish", hub.publish(0, Check.text("a"), 0, 0, false), true);
        Check.line("9: PUBLISH", hub, 0, Check.UP,
            Check.publication(Integer.MIN_VALUE, 0, 0) + Check.MARK, Check.publication(0, 0, 0));
        Check.due("9: the store is empty", hub.store(0), 0);
        hub.deliver(0, Check.UP);
        Check.due("9: there is no answer", hub.line(0, Check.DOWN), 0);
        Check.due("9: it is retained", hub.retained(Check.text("a")), Integer.MIN_VALUE);
    }

    private static void qualityZeroIsRefused() {
        MessageHub hub = new MessageHub();
        long topic = Check.text("a");
        for (int c = -1; c <= 3; c++) {
            Check.due("9: nobody or closed", hub.publish(c, topic, 1, 0, false), false);
        }
        hub.connect(0, false, 9, 1, 0);
        Check.due("9: opening", hub.publish(0, topic, 1, 0, false), false);
        hub.deliver(0, Check.UP);
        hub.deliver(0, Check.DOWN);
        for (int n = 0; n < 12; n++) {
            Check.due("9: connected", hub.publish(0, topic, 1, 0, false), true);
        }
        Check.due("9: line full", hub.publish(0, topic, 1, 0, false), false);
        hub.deliver(0, Check.UP);
        hub.leave(0);
        hub.deliver(0, Check.UP);
        Check.due("9: leaving", hub.publish(0, topic, 1, 0, false), false);
        Check.due("9: nothing more was sent", hub.line(0, Check.UP), 11);
    }

    private static void storeIsPumped() {
        MessageHub hub = new MessageHub();
        Check.join(hub, 0, 9, 1);
        for (int n = 1; n <= 4; n++) {
            Check.due("9: publish " + n, hub.publish(0, Check.text("a"), n, 1 + n % 2, n == 1), true);
        }
        Check.line("9: two at a time", hub, 0, Check.UP,
            Check.publication(1, 2, 1) + Check.MARK, Check.publication(2, 1, 2));
        Check.due("9: four, two of them under way", hub.store(0), 4 + 8 * 2);
        hub.deliver(0, Check.UP);
        hub.deliver(0, Check.UP);
        Check.line("9: PUBREC and PUBACK", hub, 0, Check.DOWN,
            Check.plain(Check.PUBREC, 1, 0), Check.plain(Check.PUBACK, 2, 0));
        Check.due("9: the broker holds the ID of quality 2", hub.session(0), 512);
        hub.deliver(0, Check.DOWN);
        Check.line("9: PUBREL; it is still under way", hub, 0, Check.UP, Check.plain(Check.PUBREL, 1, 0));
        hub.deliver(0, Check.DOWN);
        Check.line("9: the third gets the ID that is free", hub, 0, Check.UP,
            Check.plain(Check.PUBREL, 1, 0), Check.publication(3, 2, 2));
        hub.deliver(0, Check.UP);
        Check.due("9: the ID is held no more", hub.session(0), 0);
        hub.deliver(0, Check.DOWN);
        Check.due("9: the fourth goes behind", hub.packet(0, Check.UP, 1), Check.publication(4, 1, 1));
        Check.settle(hub);
        Check.due("9: all are done", hub.store(0), 0);
    }

    private static void storeIsRefused() {
        MessageHub hub = new MessageHub();
        long topic = Check.text("a");
        for (int c : new int[] {-1, 3, Integer.MIN_VALUE, Integer.MAX_VALUE}) {
            Check.due("9: nobody", hub.publish(c, topic, 1, 1, false), false);
        }
        for (String wrong : new String[] {"+", "a/#", "#", "A", "a ", "\u00e4", "a~"}) {
            Check.due("9: no topic " + wrong, hub.publish(0, Check.text(wrong), 1, 1, false), false);
        }
        Check.due("9: no topic", hub.publish(0, 0, 1, 1, false), false);
        for (int quality : new int[] {-1, 3, Integer.MIN_VALUE, Integer.MAX_VALUE}) {
            Check.due("9: quality " + quality, hub.publish(0, topic, 1, quality, false), false);
        }
        Check.due("9: refused calls store nothing", hub.store(0), 0);
        for (int n = 0; n < 4; n++) {
            Check.due("9: a closed client stores", hub.publish(0, topic, 1, 1 + n % 2, false), true);
        }
        Check.due("9: store full", hub.publish(0, topic, 1, 1, false), false);
        Check.due("9: store full", hub.publish(0, topic, 1, 2, false), false);
        Check.due("9: four waiting", hub.store(0), 4);
        Check.join(hub, 1, 9, 1);
        for (int n = 0; n < 12; n++) {
            hub.ping(1);
        }
        Check.due("9: line full", hub.publish(1, topic, 1, 1, false), false);
        Check.due("9: line full", hub.publish(1, topic, 1, 2, false), false);
        Check.due("9: store empty", hub.store(1), 0);
        hub.deliver(1, Check.UP);
        hub.leave(1);
        hub.deliver(1, Check.UP);
        Check.due("9: one that leaves stores, and is not pumped", hub.publish(1, topic, 1, 1, false), true);
        Check.due("9: it waits", hub.store(1), 1);
        Check.due("9: nothing is sent", hub.line(1, Check.UP), 11);
    }

    private static void storeOutlivesLinks() {
        MessageHub hub = new MessageHub();
        hub.publish(0, Check.text("a"), 1, 2, true);
        hub.publish(0, Check.text("a"), 2, 2, false);
        hub.publish(0, Check.text("a"), 3, 1, false);
        Check.join(hub, 0, 9, 1);
        Check.line("9: pumped at CONNACK", hub, 0, Check.UP,
            Check.publication(1, 2, 1) + Check.MARK, Check.publication(2, 2, 2));
        hub.deliver(0, Check.UP);
        hub.deliver(0, Check.DOWN);
        Check.due("9: the first is released", hub.packet(0, Check.UP, 1), Check.plain(Check.PUBREL, 1, 0));
        hub.drop(0);
        Check.due("9: the store stays", hub.store(0), 3 + 8 * 2);
        Check.due("9: drop; connect", hub.connect(0, false, 9, 1, 0), true);
        hub.deliver(0, Check.UP);
        hub.deliver(0, Check.DOWN);
        Check.line("9: PUBREL for the released one, the other with AGAIN", hub, 0, Check.UP,
            Check.plain(Check.PUBREL, 1, 0), Check.publication(2, 2, 2) + Check.AGAIN);
        Check.settle(hub);
        Check.due("9: all are done", hub.store(0), 0);
        Check.due("9: no ID is held", hub.session(0), 0);
    }

    private static void newSessionStartsOver() {
        MessageHub hub = new MessageHub();
        Check.join(hub, 0, 9, 1);
        Check.enterAndWatch(hub, 1, "a", 2);
        hub.publish(1, Check.text("a"), 5, 2, false);
        hub.deliver(1, Check.UP);
        hub.deliver(1, Check.DOWN);
        Check.due("9: client 1 holds an ID", hub.store(1), 1 + 8 + 64);
        hub.deliver(1, Check.DOWN);
        hub.publish(1, Check.text("b"), 6, 1, true);
        Check.due("9: one released, one sent", hub.store(1), 2 + 8 * 2 + 64);
        hub.drop(1);
        hub.connect(1, true, 9, 1, 0);
        hub.deliver(1, Check.UP);
        Check.due("9: a new session", hub.session(1), 0);
        hub.deliver(1, Check.DOWN);
        Check.due("9: the released one is gone, and the held ID", hub.store(1), 1 + 8);
        Check.line("9: the sent one starts over with the least ID, without AGAIN", hub, 1, Check.UP,
            Check.publication(6, 1, 1) + Check.MARK);
    }

    private static void twoSentStartOver() {
        MessageHub hub = new MessageHub();
        Check.join(hub, 0, 0, 1);
        for (int n = 1; n <= 3; n++) {
            hub.publish(0, Check.text("a"), n, 2, false);
        }
        hub.crash();
        Check.due("9: under way over the crash", hub.store(0), 3 + 8 * 2);
        Check.join(hub, 0, 0, 1);
        Check.line("9: both start over with the IDs they had", hub, 0, Check.UP,
            Check.publication(1, 2, 1), Check.publication(2, 2, 2));
    }

    private static void answersGoById() {
        MessageHub hub = new MessageHub();
        Check.join(hub, 0, 9, 1);
        for (int quality = 1; quality <= 2; quality++) {
            hub.publish(0, Check.text("a"), 1, quality, false);
            hub.publish(0, Check.text("a"), 2, quality, false);
            hub.deliver(0, Check.UP);
            hub.deliver(0, Check.DOWN);
            if (quality == 2) {
                Check.due("9: the other is still sent", hub.deliver(0, Check.UP), Check.PUBLISH);
                Check.due("9: the first PUBREL", hub.deliver(0, Check.UP), Check.PUBREL);
                hub.deliver(0, Check.DOWN);
                hub.deliver(0, Check.DOWN);
            }
            Check.due("9: the other is not done", hub.store(0), 1 + 8);
            Check.settle(hub);
            Check.due("9: it is done later", hub.store(0), 0);
        }
    }

    private static void copiesOfQualityZeroAreLost() {
        MessageHub hub = new MessageHub();
        Check.enterAndWatch(hub, 1, "a", 0);
        Check.join(hub, 0, 9, 1);
        for (int n = 0; n < 13; n++) {
            hub.publish(0, Check.text("a"), n, 0, false);
            hub.deliver(0, Check.UP);
        }
        Check.due("9: a line of twelve takes no more", hub.line(1, Check.DOWN), 12);
        Check.due("9: the last that fits", hub.packet(1, Check.DOWN, 11), Check.publication(11, 0, 0));
        hub.drop(1);
        hub.publish(0, Check.text("a"), 77, 2, false);
        Check.settle(hub);
        Check.due("9: without an attached connection it is lost", hub.session(1), 1);
        Check.join(hub, 1, 9, 1);
        Check.due("9: it does not come later", hub.line(1, Check.DOWN), 0);
    }

    private static void fullSessionRefuses() {
        MessageHub hub = new MessageHub();
        Check.join(hub, 0, 50, 1);
        Check.join(hub, 2, 50, 3);
        Check.enter(hub, 2, "#", 0, false);
        Check.enter(hub, 2, "x", 2, false);
        Check.join(hub, 1, 50, 1);
        Check.enter(hub, 1, "a", 1, false);
        Check.enter(hub, 1, "+", 2, false);
        for (int n = 0; n < 2; n++) {
            hub.publish(0, Check.text("a"), n, 1, false);
            hub.deliver(0, Check.UP);
            hub.deliver(0, Check.DOWN);
        }
        hub.publish(0, Check.text("x"), 3, 1, false);
        hub.deliver(0, Check.UP);
        hub.deliver(0, Check.DOWN);
        Check.due("9: five for session 1", hub.session(1), 2 + 8 * 4 + 64);
        int before = hub.line(2, Check.DOWN);
        hub.publish(0, Check.text("a"), 4, 2, false);
        hub.deliver(0, Check.UP);
        Check.line("9: two more have no room", hub, 0, Check.DOWN, Check.plain(Check.PUBREC, 1, 151));
        Check.due("9: nothing is done for any session", hub.line(2, Check.DOWN), before);
        Check.due("9: session 1", hub.session(1), 2 + 8 * 4 + 64);
        Check.due("9: the ID is not held", hub.session(0), 0);
        hub.deliver(0, Check.DOWN);
        Check.due("9: it leaves the store", hub.store(0), 0);
        hub.publish(0, Check.text("x"), 5, 1, false);
        hub.deliver(0, Check.UP);
        Check.line("9: one more has room", hub, 0, Check.DOWN, Check.plain(Check.PUBACK, 1, 0));
        hub.deliver(0, Check.DOWN);
        hub.publish(0, Check.text("x"), 6, 1, false);
        hub.deliver(0, Check.UP);
        Check.line("9: but not a seventh", hub, 0, Check.DOWN, Check.plain(Check.PUBACK, 1, 151));
        hub.deliver(0, Check.DOWN);
        Check.due("9: it leaves the store as well", hub.store(0), 0);
        before = hub.line(2, Check.DOWN);
        hub.publish(0, Check.text("x"), 7, 0, false);
        hub.deliver(0, Check.UP);
        Check.due("9: quality 0 needs no room in the sessions", hub.line(2, Check.DOWN), before + 2);
    }

    private static void refusedMessageIsNotRetained() {
        MessageHub hub = new MessageHub();
        Check.join(hub, 0, 50, 1);
        Check.enterAndWatch(hub, 1, "a", 2);
        hub.drop(1);
        for (int n = 1; n <= 7; n++) {
            hub.publish(0, Check.text("a"), n, 1, true);
            hub.deliver(0, Check.UP);
            hub.deliver(0, Check.DOWN);
        }
        Check.due("9: six", hub.session(1), 1 + 8 * 6);
        Check.due("9: the seventh is not retained", hub.retained(Check.text("a")), 6);
    }

    /** Session 1, without a link, has six messages for its subscription to a. */
    private static MessageHub fullSessionOne(boolean noLocal) {
        MessageHub hub = new MessageHub();
        Check.join(hub, 0, 50, 1);
        Check.join(hub, 1, 50, 1);
        Check.enter(hub, 1, "a", 1, noLocal);
        for (int n = 1; n <= 6; n++) {
            hub.publish(0, Check.text("a"), n, 1, false);
            hub.deliver(0, Check.UP);
            hub.deliver(0, Check.DOWN);
        }
        Check.due("9: six", hub.session(1), 1 + 8 * 5 + 64);
        return hub;
    }

    private static void refusalLetsTheNextGo() {
        MessageHub hub = fullSessionOne(false);
        hub.publish(0, Check.text("a"), 7, 2, false);
        hub.publish(0, Check.text("b"), 8, 2, false);
        hub.publish(0, Check.text("b"), 9, 2, false);
        hub.deliver(0, Check.UP);
        hub.deliver(0, Check.DOWN);
        Check.line("9: behind the refusal the third goes, with the ID that is free", hub, 0, Check.UP,
            Check.publication(8, 2, 2), Check.publication(9, 2, 1));
    }

    private static void noLocalNeedsNoRoom() {
        for (boolean noLocal : new boolean[] {false, true}) {
            MessageHub hub = fullSessionOne(noLocal);
            hub.publish(1, Check.text("a"), 7, 1, true);
            hub.deliver(1, Check.UP);
            Check.due("9: client 1's own message", hub.packet(1, Check.DOWN, 1),
                Check.plain(Check.PUBACK, 1, noLocal ? 0 : 151));
            Check.due("9: retained unless refused", hub.retained(Check.text("a")), noLocal ? 7 : 0);
            hub.publish(0, Check.text("a"), 8, 1, false);
            hub.deliver(0, Check.UP);
            Check.line("9: another's has no room", hub, 0, Check.DOWN, Check.plain(Check.PUBACK, 1, 151));
        }
    }

    private static void onceHeldIsNotAcceptedAgain() {
        MessageHub hub = new MessageHub();
        Check.join(hub, 0, 50, 1);
        Check.enterAndWatch(hub, 1, "a", 2);
        hub.publish(0, Check.text("a"), 5, 2, true);
        hub.deliver(0, Check.UP);
        hub.drop(0);
        hub.connect(0, false, 50, 1, 0);
        hub.deliver(0, Check.UP);
        hub.deliver(0, Check.DOWN);
        Check.line("9: again", hub, 0, Check.UP, Check.publication(5, 2, 1) + Check.AGAIN + Check.MARK);
        hub.deliver(0, Check.UP);
        Check.line("9: the reason is 0", hub, 0, Check.DOWN, Check.plain(Check.PUBREC, 1, 0));
        Check.settle(hub);
        Check.inbox("9: exactly once", hub, 1, 5);
        hub.publish(0, Check.text("a"), 6, 1, false);
        hub.deliver(0, Check.UP);
        hub.drop(0);
        Check.join(hub, 0, 50, 1);
        Check.settle(hub);
        Check.inbox("9: at least once", hub, 1, 5, 6, 6);
    }

    private static void retainedAreReplaced() {
        MessageHub hub = new MessageHub();
        Check.join(hub, 0, 50, 1);
        retain(hub, "a", 1);
        retain(hub, "b", 2);
        retain(hub, "none", 0);
        retain(hub, "c", 3);
        retain(hub, "a", 4);
        retain(hub, "b", 0);
        retain(hub, "d", 5);
        retain(hub, "e", 6);
        retain(hub, "f", 7);
        retain(hub, "b", 8);
        retain(hub, "d", 9);
        Check.due("9: replaced", hub.retained(Check.text("a")), 4);
        Check.due("9: taken away, and no room for it later", hub.retained(Check.text("b")), 0);
        Check.due("9: no room for a fifth", hub.retained(Check.text("f")), 0);
        hub.subscribe(0, Check.text("#"), 2, false);
        hub.deliver(0, Check.UP);
        Check.line("9: in order, replaced where they stand", hub, 0, Check.DOWN, Check.plain(Check.SUBACK, 0, 2),
            Check.publication(4, 0, 0) + Check.MARK, Check.publication(3, 0, 0) + Check.MARK,
            Check.publication(9, 0, 0) + Check.MARK, Check.publication(6, 0, 0) + Check.MARK);
        Check.settle(hub);
        hub.publish(0, Check.text("a"), 11, 0, true);
        hub.deliver(0, Check.UP);
        Check.line("9: a copy is without RETAIN", hub, 0, Check.DOWN, Check.publication(11, 0, 0));
        hub.publish(0, Check.text("a"), 12, 0, false);
        hub.deliver(0, Check.UP);
        Check.due("9: without RETAIN nothing is retained", hub.retained(Check.text("a")), 11);
        retain(hub, "a", 0);
        Check.due("9: the first is taken away", hub.retained(Check.text("a")), 0);
        retain(hub, "g", 12);
        Check.due("9: there is room again", hub.retained(Check.text("g")), 12);
    }

    private static void retain(MessageHub hub, String topic, int value) {
        Check.due("9: retain " + topic, hub.publish(0, Check.text(topic), value, 0, true), true);
        hub.deliver(0, Check.UP);
    }
}
