/** Boundary cases of 'Terms, a client': a test for each sentence (but for those of StrayPacketTest). */
public final class ClientBoundariesTest {
    public static void main(String[] args) {
        storeTakesFourWithoutALink();
        storeTakesFourUnderWayOrWaiting();
        releasedOnesAreInTheStore();
        qualityZeroNeedsNoStore();
        storesAreApart();
        allIsKeptWhateverHappensToLinks();
        pumpingStopsAtTwo();
        pumpingCountsReleasedOnes();
        pumpingNeedsAConnectedClient();
        pumpingTakesTheFirstThatWaits();
        connackZeroStartsOver();
        connackZeroLetsSentOnesWait();
        connackOneSendsAgain();
        connackOnePumpsBehind();
        qualityZeroIsNotAnswered();
        qualityOneComesInEachTime();
        qualityOneAsksForNoHeldId();
        qualityTwoComesInOnce();
        pubrelIsAnsweredWithoutAHeldId();
        refusedMessageLeavesTheStore();
        refusedMessageOfTwo();
        othersChangeNothing();
        Check.finish();
    }

    private static boolean keep(MessageHub hub, int c, int value, int quality) {
        return hub.publish(c, Check.text("a"), value, quality, false);
    }

    /** 'at most 4 messages of quality 1 or 2', all of them waiting */
    private static void storeTakesFourWithoutALink() {
        for (int quality = 1; quality <= 2; quality++) {
            MessageHub hub = new MessageHub();
            for (int n = 1; n <= 4; n++) {
                Check.due("message " + n, keep(hub, 0, n, quality), true);
                Check.due("store of " + n, hub.store(0), n);
            }
            Check.due("a fifth of quality 1", keep(hub, 0, 5, 1), false);
            Check.due("a fifth of quality 2", keep(hub, 0, 5, 2), false);
            Check.due("still four", hub.store(0), 4);
        }
    }

    /** .. or some under way: the fifth has room when one is done */
    private static void storeTakesFourUnderWayOrWaiting() {
        MessageHub hub = new MessageHub();
        Check.join(hub, 0, 9, 1);
        for (int n = 1; n <= 4; n++) {
            Check.due("message " + n, keep(hub, 0, n, 1), true);
        }
        Check.due("two of four under way", hub.store(0), 4 + 8 * 2);
        Check.due("a fifth", keep(hub, 0, 5, 1), false);
        Scene.carry(hub, 0, Check.UP, Check.PUBLISH);
        Check.due("the broker has it, the client is not done", keep(hub, 0, 5, 1), false);
        Scene.carry(hub, 0, Check.DOWN, Check.PUBACK);
        Check.due("three are left", hub.store(0), 3 + 8 * 2);
        Check.due("now there is room", keep(hub, 0, 5, 1), true);
        Check.due("for one", keep(hub, 0, 6, 1), false);
    }

    /** 'not yet done': a released message is in the store until its PUBCOMP */
    private static void releasedOnesAreInTheStore() {
        MessageHub hub = new MessageHub();
        Check.join(hub, 0, 9, 1);
        for (int n = 1; n <= 4; n++) {
            keep(hub, 0, n, 2);
        }
        Scene.carry(hub, 0, Check.UP, Check.PUBLISH);
        Scene.carry(hub, 0, Check.DOWN, Check.PUBREC);
        Check.due("released", keep(hub, 0, 5, 1), false);
        Scene.carry(hub, 0, Check.UP, Check.PUBLISH);
        Scene.carry(hub, 0, Check.UP, Check.PUBREL);
        Check.due("the broker has the PUBREL", keep(hub, 0, 5, 1), false);
        Scene.carry(hub, 0, Check.DOWN, Check.PUBREC);
        Scene.carry(hub, 0, Check.DOWN, Check.PUBCOMP);
        Check.due("done", keep(hub, 0, 5, 1), true);
    }

    /** 'of quality 1 or 2': quality 0 is neither stored nor refused for a full store */
    private static void qualityZeroNeedsNoStore() {
        MessageHub hub = new MessageHub();
        Check.join(hub, 0, 9, 1);
        for (int n = 1; n <= 4; n++) {
            keep(hub, 0, n, 1);
        }
        Check.due("quality 0 with a full store", keep(hub, 0, 7, 0), true);
        Check.due("it is sent", hub.packet(0, Check.UP, 2), Check.publication(7, 0, 0));
        Check.due("the store is the same", hub.store(0), 4 + 8 * 2);
    }

    /** Each client has a store of its own. */
    private static void storesAreApart() {
        MessageHub hub = new MessageHub();
        for (int c = 0; c < 3; c++) {
            for (int n = 1; n <= 4; n++) {
                Check.due("client " + c, keep(hub, c, n, 1), true);
            }
            Check.due("client " + c, keep(hub, c, 5, 1), false);
        }
    }

    /** Client 0 holds an ID, has a value in its inbox, and two messages of three under way. */
    private static MessageHub busyClient() {
        MessageHub hub = new MessageHub();
        Scene.joinKeeping(hub, 0, 50, 1);
        Check.enter(hub, 0, "b", 2, false);
        Check.join(hub, 1, 50, 1);
        Scene.hand(hub, 1, "b", 8, 2, false);
        Scene.carry(hub, 0, Check.DOWN, Check.PUBLISH);
        for (int n = 1; n <= 3; n++) {
            keep(hub, 0, n, 2);
        }
        Check.due("busy", hub.store(0), 3 + 8 * 2 + 64);
        return hub;
    }

    private static void stillBusy(String what, MessageHub hub) {
        Check.due(what + ": closed", hub.state(0) % 4, Scene.CLOSED);
        Check.due(what + ": store", hub.store(0), 3 + 8 * 2 + 64);
        Check.inbox(what, hub, 0, 8);
    }

    /** 'A CLIENT keeps (whatever happens to links)' */
    private static void allIsKeptWhateverHappensToLinks() {
        MessageHub dropped = busyClient();
        dropped.drop(0);
        stillBusy("drop", dropped);
        MessageHub crashed = busyClient();
        crashed.crash();
        stillBusy("crash", crashed);
        MessageHub silent = busyClient();
        Check.due("silence", silent.tick() + silent.tick(), 1);
        stillBusy("silence", silent);
        MessageHub left = busyClient();
        Check.due("leave", left.leave(0), true);
        for (int n = 0; n < 4; n++) {
            left.deliver(0, Check.UP);
        }
        stillBusy("leave", left);
    }

    /** 'while .. fewer than 2 of its messages are under way and one is waiting' */
    private static void pumpingStopsAtTwo() {
        MessageHub hub = new MessageHub();
        Check.join(hub, 0, 9, 3);
        keep(hub, 0, 1, 1);
        Check.due("one", hub.store(0) * 100 + hub.line(0, Check.UP), (1 + 8) * 100 + 1);
        keep(hub, 0, 2, 1);
        Check.due("two", hub.store(0) * 100 + hub.line(0, Check.UP), (2 + 8 * 2) * 100 + 2);
        keep(hub, 0, 3, 1);
        Check.due("not three", hub.store(0) * 100 + hub.line(0, Check.UP), (3 + 8 * 2) * 100 + 2);
        Scene.carry(hub, 0, Check.UP, Check.PUBLISH);
        Scene.carry(hub, 0, Check.UP, Check.PUBLISH);
        Scene.carry(hub, 0, Check.DOWN, Check.PUBACK);
        Check.due("the third when one is done", hub.store(0), 2 + 8 * 2);
        Scene.carry(hub, 0, Check.DOWN, Check.PUBACK);
        Check.due("none is waiting", hub.store(0), 1 + 8);
        Check.line("the third was sent once", hub, 0, Check.UP, Check.publication(3, 1, 1));
    }

    /** 'RELEASED (2; these two are UNDER WAY, with an ID)' */
    private static void pumpingCountsReleasedOnes() {
        MessageHub hub = new MessageHub();
        Check.join(hub, 0, 9, 3);
        for (int n = 1; n <= 3; n++) {
            keep(hub, 0, n, 2);
        }
        for (int n = 0; n < 2; n++) {
            Scene.carry(hub, 0, Check.UP, Check.PUBLISH);
        }
        for (int n = 0; n < 2; n++) {
            Scene.carry(hub, 0, Check.DOWN, Check.PUBREC);
        }
        Check.due("two released, one waiting", hub.store(0), 3 + 8 * 2);
        Check.line("PUBRELs alone", hub, 0, Check.UP, Check.plain(Check.PUBREL, 1, 0), Check.plain(Check.PUBREL, 2, 0));
    }

    /** 'PUMPING a client: while it is connected' */
    private static void pumpingNeedsAConnectedClient() {
        for (int state = Scene.CLOSED; state <= Scene.LEAVING; state++) {
            MessageHub hub = new MessageHub();
            Scene.bring(hub, 0, state);
            int before = hub.line(0, Check.UP);
            Check.due("kept in state " + state, keep(hub, 0, 5, 1), true);
            boolean connected = state == Scene.CONNECTED;
            Check.due("under way in state " + state, hub.store(0), connected ? 1 + 8 : 1);
            Check.due("sent in state " + state, hub.line(0, Check.UP) - before, connected ? 1 : 0);
        }
    }

    /** 'the first such gets an ID' */
    private static void pumpingTakesTheFirstThatWaits() {
        MessageHub hub = new MessageHub();
        for (int n = 1; n <= 4; n++) {
            keep(hub, 0, n, n % 2 == 0 ? 2 : 1);
        }
        Check.join(hub, 0, 9, 1);
        Check.line("the first two", hub, 0, Check.UP, Check.publication(1, 1, 1), Check.publication(2, 2, 2));
        Scene.carry(hub, 0, Check.UP, Check.PUBLISH);
        Scene.carry(hub, 0, Check.DOWN, Check.PUBACK);
        Check.due("then the third", hub.packet(0, Check.UP, 1), Check.publication(3, 1, 1));
    }

    /** 'If its value is 0 (no session): it holds no IDs any more, RELEASED messages leave the store, SENT ones wait again' */
    private static void connackZeroStartsOver() {
        MessageHub hub = new MessageHub();
        Check.join(hub, 1, 50, 1);
        Check.enterAndWatch(hub, 0, "b", 2);
        for (int n = 1; n <= 3; n++) {
            keep(hub, 0, n, 2);
        }
        Scene.carry(hub, 0, Check.UP, Check.PUBLISH);
        Scene.carry(hub, 0, Check.DOWN, Check.PUBREC);
        Scene.hand(hub, 1, "b", 9, 2, false);
        Scene.carry(hub, 0, Check.DOWN, Check.PUBLISH);
        Check.due("one released, one sent, one waiting, an ID held", hub.store(0), 3 + 8 * 2 + 64);
        hub.drop(0);
        Check.due("clean", hub.connect(0, true, 50, 1, 0), true);
        Scene.carry(hub, 0, Check.UP, Check.CONNECT);
        Check.due("nothing before the CONNACK", hub.store(0), 3 + 8 * 2 + 64);
        Scene.carry(hub, 0, Check.DOWN, Check.CONNACK);
        Check.due("the released one is gone, no ID is held", hub.store(0), 2 + 8 * 2);
        Check.line("the others go anew, without AGAIN", hub, 0, Check.UP,
            Check.publication(2, 2, 1), Check.publication(3, 2, 2));
    }

    /** 'SENT ones wait again', where they stand: first and last of the store */
    private static void connackZeroLetsSentOnesWait() {
        for (int messages = 1; messages <= 4; messages++) {
            MessageHub hub = new MessageHub();
            Check.join(hub, 0, 0, 1);
            for (int n = 1; n <= messages; n++) {
                keep(hub, 0, n, 1);
            }
            hub.crash();
            Check.join(hub, 0, 0, 1);
            int under = Math.min(messages, 2);
            Check.due("of " + messages, hub.store(0), messages + 8 * under);
            Check.due("sent of " + messages, hub.line(0, Check.UP), under);
            for (int n = 1; n <= under; n++) {
                Check.due("anew of " + messages, hub.packet(0, Check.UP, n - 1), Check.publication(n, 1, n));
            }
        }
    }

    /** 'Otherwise for each message under way, in order: a SENT one is sent again .., for a RELEASED one a PUBREL' */
    private static void connackOneSendsAgain() {
        MessageHub hub = new MessageHub();
        Check.join(hub, 0, 9, 1);
        hub.publish(0, Check.text("a"), 1, 1, true);
        keep(hub, 0, 2, 2);
        keep(hub, 0, 3, 1);
        Scene.carry(hub, 0, Check.UP, Check.PUBLISH);
        Scene.carry(hub, 0, Check.UP, Check.PUBLISH);
        hub.drop(0);
        Check.join(hub, 0, 9, 1);
        Check.line("both sent again, the third waits", hub, 0, Check.UP,
            Check.publication(1, 1, 1) + Check.AGAIN + Check.MARK, Check.publication(2, 2, 2) + Check.AGAIN);
        Scene.carry(hub, 0, Check.UP, Check.PUBLISH);
        Scene.carry(hub, 0, Check.UP, Check.PUBLISH);
        Scene.carry(hub, 0, Check.DOWN, Check.PUBACK);
        Scene.carry(hub, 0, Check.DOWN, Check.PUBREC);
        hub.drop(0);
        Check.join(hub, 0, 9, 1);
        Check.line("a PUBREL for the released one", hub, 0, Check.UP,
            Check.plain(Check.PUBREL, 2, 0), Check.publication(3, 1, 1) + Check.AGAIN);
    }

    /** 'Then it is pumped.' */
    private static void connackOnePumpsBehind() {
        MessageHub hub = new MessageHub();
        Check.join(hub, 0, 9, 1);
        keep(hub, 0, 1, 1);
        hub.drop(0);
        for (int n = 2; n <= 4; n++) {
            keep(hub, 0, n, 1);
        }
        Check.join(hub, 0, 9, 1);
        Check.line("the first with AGAIN, then one more", hub, 0, Check.UP,
            Check.publication(1, 1, 1) + Check.AGAIN, Check.publication(2, 1, 2));
    }

    /** 'quality 0: the value goes into the inbox', and no more */
    private static void qualityZeroIsNotAnswered() {
        MessageHub hub = new MessageHub();
        Check.enterAndWatch(hub, 0, "a", 0);
        hub.publish(0, Check.text("a"), 0, 0, false);
        Scene.carry(hub, 0, Check.UP, Check.PUBLISH);
        Scene.carry(hub, 0, Check.DOWN, Check.PUBLISH);
        Check.inbox("an empty value counts", hub, 0, 0);
        Check.due("no answer", hub.line(0, Check.UP), 0);
        Check.due("nothing held", hub.store(0), 0);
    }

    /** '1: so too, and a PUBACK' */
    private static void qualityOneComesInEachTime() {
        MessageHub hub = new MessageHub();
        Check.join(hub, 0, 9, 1);
        Check.enterAndWatch(hub, 1, "a", 1);
        Scene.hand(hub, 0, "a", 5, 1, false);
        for (int n = 1; n <= 2; n++) {
            Scene.carry(hub, 1, Check.DOWN, Check.PUBLISH);
            Check.due("each time", hub.inbox(1, -1), n);
            Check.line("PUBACK", hub, 1, Check.UP, Check.plain(Check.PUBACK, 1, 0));
            Check.due("nothing held", hub.store(1), 0);
            hub.drop(1);
            Check.join(hub, 1, 50, 1);
        }
    }

    /** .. also when the ID is held, for a message of a session whose end the client has not heard of */
    private static void qualityOneAsksForNoHeldId() {
        MessageHub hub = new MessageHub();
        Check.join(hub, 0, 9, 1);
        Check.enterAndWatch(hub, 1, "a", 2);
        Scene.hand(hub, 0, "a", 5, 2, false);
        Scene.carry(hub, 1, Check.DOWN, Check.PUBLISH);
        hub.drop(1);
        hub.connect(1, true, 9, 1, 0);
        Scene.carry(hub, 1, Check.UP, Check.CONNECT);
        hub.drop(1);
        Check.join(hub, 1, 9, 1);
        Check.enter(hub, 1, "a", 1, false);
        Check.due("held still", hub.store(1), 64);
        Scene.hand(hub, 0, "a", 6, 1, false);
        Check.line("the same ID", hub, 1, Check.DOWN, Check.publication(6, 1, 1));
        Scene.carry(hub, 1, Check.DOWN, Check.PUBLISH);
        Check.inbox("it comes in", hub, 1, 5, 6);
        Check.line("PUBACK", hub, 1, Check.UP, Check.plain(Check.PUBACK, 1, 0));
        Check.due("held as before", hub.store(1), 64);
    }

    /** '2: if the ID is not held, the value goes into the inbox and the ID is held; then a PUBREC' */
    private static void qualityTwoComesInOnce() {
        MessageHub hub = new MessageHub();
        Check.join(hub, 0, 9, 1);
        Check.enterAndWatch(hub, 1, "a", 2);
        Scene.hand(hub, 0, "a", 5, 2, false);
        for (int n = 1; n <= 3; n++) {
            Scene.carry(hub, 1, Check.DOWN, Check.PUBLISH);
            Check.inbox("once", hub, 1, 5);
            Check.line("PUBREC", hub, 1, Check.UP, Check.plain(Check.PUBREC, 1, 0));
            Check.due("held", hub.store(1), 64);
            hub.drop(1);
            Check.join(hub, 1, 50, 1);
        }
        Check.settle(hub);
        Check.due("held no more", hub.store(1), 0);
        Scene.hand(hub, 0, "a", 6, 2, false);
        Check.settle(hub);
        Check.inbox("the same ID, another message", hub, 1, 5, 6);
    }

    /** 'PUBREL: the ID is held no more; a PUBCOMP', also for an ID that is not held */
    private static void pubrelIsAnsweredWithoutAHeldId() {
        MessageHub hub = new MessageHub();
        Check.join(hub, 0, 9, 1);
        Check.enterAndWatch(hub, 1, "a", 2);
        Scene.hand(hub, 0, "a", 5, 2, false);
        Scene.carry(hub, 1, Check.DOWN, Check.PUBLISH);
        Scene.carry(hub, 1, Check.UP, Check.PUBREC);
        for (int n = 0; n < 2; n++) {
            Scene.carry(hub, 1, Check.DOWN, Check.PUBREL);
            Check.due("not held", hub.store(1), 0);
            Check.line("PUBCOMP", hub, 1, Check.UP, Check.plain(Check.PUBCOMP, 1, 0));
            hub.drop(1);
            Check.join(hub, 1, 50, 1);
        }
    }

    /** Session 1 is full for the topic a; client 0 has no subscription. */
    private static MessageHub fullForA() {
        MessageHub hub = new MessageHub();
        Check.join(hub, 0, 50, 1);
        Check.enterAndWatch(hub, 1, "a", 2);
        Scene.handMany(hub, 0, "a", 6);
        return hub;
    }

    /** 'with reason 151 a SENT one leaves the store', without a PUBREL */
    private static void refusedMessageLeavesTheStore() {
        MessageHub hub = fullForA();
        keep(hub, 0, 7, 2);
        Scene.carry(hub, 0, Check.UP, Check.PUBLISH);
        Check.line("refused", hub, 0, Check.DOWN, Check.plain(Check.PUBREC, 1, 151));
        Check.due("still there", hub.store(0), 1 + 8);
        Scene.carry(hub, 0, Check.DOWN, Check.PUBREC);
        Check.due("gone", hub.store(0), 0);
        Check.due("no PUBREL", hub.line(0, Check.UP), 0);
    }

    /** .. the one with this ID alone; 'After these three it is pumped.' */
    private static void refusedMessageOfTwo() {
        MessageHub hub = fullForA();
        hub.publish(0, Check.text("b"), 7, 2, false);
        keep(hub, 0, 8, 2);
        keep(hub, 0, 9, 2);
        Scene.carry(hub, 0, Check.UP, Check.PUBLISH);
        Scene.carry(hub, 0, Check.UP, Check.PUBLISH);
        Check.line("one taken, one refused", hub, 0, Check.DOWN,
            Check.plain(Check.PUBREC, 1, 0), Check.plain(Check.PUBREC, 2, 151));
        Scene.carry(hub, 0, Check.DOWN, Check.PUBREC);
        Scene.carry(hub, 0, Check.DOWN, Check.PUBREC);
        Check.due("two are left", hub.store(0), 2 + 8 * 2);
        Check.line("the third takes the free ID", hub, 0, Check.UP,
            Check.plain(Check.PUBREL, 1, 0), Check.publication(9, 2, 2));
    }

    /** 'Others: nothing.': SUBACK, UNSUBACK, PONG */
    private static void othersChangeNothing() {
        MessageHub hub = busyClient();
        hub.subscribe(0, Check.text("c"), 1, false);
        hub.unsubscribe(0, Check.text("d"));
        hub.ping(0);
        Scene.carry(hub, 0, Check.UP, Check.PUBREC);
        Scene.carry(hub, 0, Check.DOWN, Check.PUBREL);
        for (int n = 0; n < 5; n++) {
            hub.deliver(0, Check.UP);
        }
        Scene.carry(hub, 0, Check.DOWN, Check.PUBREC);
        Scene.carry(hub, 0, Check.DOWN, Check.PUBREC);
        int store = hub.store(0);
        int up = hub.line(0, Check.UP);
        int[] types = {Check.SUBACK, Check.UNSUBACK, Check.PONG};
        for (int type : types) {
            Scene.carry(hub, 0, Check.DOWN, type);
            Check.due("state behind " + type, hub.state(0), 14);
            Check.due("store behind " + type, hub.store(0), store);
            Check.due("up line behind " + type, hub.line(0, Check.UP), up);
            Check.inbox("inbox behind " + type, hub, 0, 8);
        }
    }
}
