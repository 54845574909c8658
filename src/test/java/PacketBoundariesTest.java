/** Boundary cases of 'Terms, links' and 'Terms, packets': a test for each sentence. */
public final class PacketBoundariesTest {
    public static void main(String[] args) {
        clientsAreZeroToTwo();
        closingEmptiesBothLines();
        linesHaveAnOrder();
        sendingWithoutAnAttachedConnectionIsLost();
        sendingWithoutAConnectionIsLost();
        clientTakesTheLeastFreeId();
        brokerTakesTheLeastFreeId();
        idsOfReleasedOnesAreInUse();
        idsOfTheTwoSidesAreApart();
        idsOfSessionsAreApart();
        othersHaveNoId();
        pubackReasons();
        pubrecReasons();
        subackReasons();
        unsubackReasons();
        pubrelAndPubcompHaveValueZero();
        Check.finish();
    }

    /** 'Client c (0 .. 2)' */
    private static void clientsAreZeroToTwo() {
        MessageHub hub = new MessageHub();
        for (int c = 0; c <= 2; c++) {
            Check.due("client " + c, hub.state(c), 0);
            Check.join(hub, c, 1, 1);
            Check.due("client " + c + " connects", hub.state(c), 14);
        }
        Check.due("client -1", hub.state(-1), -1);
        Check.due("client 3", hub.state(3), -1);
        Check.due("client -1 does not connect", hub.connect(-1, false, 1, 1, 0), false);
        Check.due("client 3 does not connect", hub.connect(3, false, 1, 1, 0), false);
    }

    /** Client 0, with a keep-alive of 1, has a packet in each line. */
    private static MessageHub bothLines() {
        MessageHub hub = new MessageHub();
        Scene.joinKeeping(hub, 0, 9, 1);
        Scene.fillDown(hub, 0, 1);
        Scene.fillUp(hub, 0, 1);
        return hub;
    }

    private static void bothEmpty(String what, MessageHub hub, int state) {
        Check.due(what + ": state", hub.state(0), state);
        Check.due(what + ": up", hub.line(0, Check.UP), 0);
        Check.due(what + ": down", hub.line(0, Check.DOWN), 0);
        Check.due(what + ": a new link", hub.connect(0, false, 9, 1, 0), true);
        Check.line(what + ": the new up line", hub, 0, Check.UP, Check.plain(Check.CONNECT, 0, 9));
        Check.line(what + ": the new down line", hub, 0, Check.DOWN);
    }

    /** 'When a link CLOSES both lines are empty.' */
    private static void closingEmptiesBothLines() {
        MessageHub dropped = bothLines();
        dropped.drop(0);
        bothEmpty("drop", dropped, 4);
        MessageHub crashed = bothLines();
        crashed.crash();
        bothEmpty("crash", crashed, 0);
        MessageHub silent = bothLines();
        Check.due("silence", silent.tick() * 10 + silent.tick(), 1);
        bothEmpty("silence", silent, 0);
        MessageHub left = bothLines();
        Check.due("leave", left.leave(0), true);
        Scene.carry(left, 0, Check.UP, Check.PING);
        Scene.carry(left, 0, Check.UP, Check.DISCONNECT);
        bothEmpty("leave", left, 0);
    }

    /** 'each in order; what is SENT goes to the end of a line' */
    private static void linesHaveAnOrder() {
        MessageHub hub = new MessageHub();
        Check.join(hub, 0, 9, 1);
        hub.ping(0);
        hub.subscribe(0, Check.text("a"), 1, true);
        hub.unsubscribe(0, Check.text("a"));
        Check.line("up", hub, 0, Check.UP, Check.PING, Check.plain(Check.SUBSCRIBE, 0, 1) + Check.MARK, Check.UNSUBSCRIBE);
        Scene.carry(hub, 0, Check.UP, Check.PING);
        Scene.carry(hub, 0, Check.UP, Check.SUBSCRIBE);
        Scene.carry(hub, 0, Check.UP, Check.UNSUBSCRIBE);
        Check.line("down", hub, 0, Check.DOWN, Check.PONG, Check.plain(Check.SUBACK, 0, 1), Check.UNSUBACK);
        Scene.carry(hub, 0, Check.DOWN, Check.PONG);
        Scene.carry(hub, 0, Check.DOWN, Check.SUBACK);
        Scene.carry(hub, 0, Check.DOWN, Check.UNSUBACK);
    }

    /** 'What the broker sends to c is lost when its connection with c is not attached' */
    private static void sendingWithoutAnAttachedConnectionIsLost() {
        MessageHub hub = new MessageHub();
        Check.join(hub, 0, 9, 1);
        Check.enterAndWatch(hub, 1, "a", 0);
        hub.drop(1);
        Scene.hand(hub, 0, "a", 5, 0, false);
        Check.due("connect", hub.connect(1, false, 9, 1, 0), true);
        Scene.hand(hub, 0, "a", 6, 0, false);
        Check.due("an old connection, a new link", hub.state(1), 5);
        Check.due("nothing goes over the new link", hub.line(1, Check.DOWN), 0);
        Scene.carry(hub, 1, Check.UP, Check.CONNECT);
        Check.line("nor later", hub, 1, Check.DOWN, Check.plain(Check.CONNACK, 0, 1));
        Scene.hand(hub, 0, "a", 7, 0, false);
        Check.due("attached again", hub.packet(1, Check.DOWN, 1), Check.publication(7, 0, 0));
    }

    /** '(or it has none)' */
    private static void sendingWithoutAConnectionIsLost() {
        MessageHub hub = new MessageHub();
        Check.join(hub, 0, 9, 1);
        Check.enterAndWatch(hub, 1, "a", 0);
        Scene.goAway(hub, 1);
        Check.due("connect", hub.connect(1, false, 9, 1, 0), true);
        Scene.hand(hub, 0, "a", 5, 0, false);
        Check.due("no connection, a new link", hub.state(1), 1);
        Check.due("nothing goes over the new link", hub.line(1, Check.DOWN), 0);
        Scene.carry(hub, 1, Check.UP, Check.CONNECT);
        Check.line("nor later", hub, 1, Check.DOWN, Check.plain(Check.CONNACK, 0, 1));
    }

    /** 'IDs are 1 .. 8: the least one that is not in use', from a client */
    private static void clientTakesTheLeastFreeId() {
        MessageHub hub = new MessageHub();
        Check.join(hub, 0, 9, 1);
        int[] qualities = {2, 1, 1, 1};
        for (int n = 0; n < 4; n++) {
            hub.publish(0, Check.text("a"), n, qualities[n], false);
        }
        Check.line("1 and 2", hub, 0, Check.UP, Check.publication(0, 2, 1), Check.publication(1, 1, 2));
        Scene.carry(hub, 0, Check.UP, Check.PUBLISH);
        Scene.carry(hub, 0, Check.UP, Check.PUBLISH);
        Scene.carry(hub, 0, Check.DOWN, Check.PUBREC);
        Scene.carry(hub, 0, Check.DOWN, Check.PUBACK);
        Check.due("2 again, 1 being in use", hub.packet(0, Check.UP, 1), Check.publication(2, 1, 2));
        Scene.carry(hub, 0, Check.UP, Check.PUBREL);
        Scene.carry(hub, 0, Check.DOWN, Check.PUBCOMP);
        Check.due("1 again, 2 being in use", hub.packet(0, Check.UP, 1), Check.publication(3, 1, 1));
    }

    /** Session 1 has 1 (quality 2), 2 (quality 1) and 3 (quality 2) under way and two more in its queue. */
    private static MessageHub threeOfFive() {
        MessageHub hub = new MessageHub();
        Check.join(hub, 0, 50, 1);
        Check.enterAndWatch(hub, 1, "a", 2);
        int[] qualities = {2, 1, 2, 1, 1};
        for (int n = 1; n <= 5; n++) {
            Scene.hand(hub, 0, "a", n, qualities[n - 1], false);
        }
        Check.line("1, 2 and 3", hub, 1, Check.DOWN, Check.publication(1, 2, 1), Check.publication(2, 1, 2),
            Check.publication(3, 2, 3));
        return hub;
    }

    /** 'IDs are 1 .. 8: the least one that is not in use', from the broker */
    private static void brokerTakesTheLeastFreeId() {
        MessageHub hub = threeOfFive();
        for (int n = 0; n < 3; n++) {
            Scene.carry(hub, 1, Check.DOWN, Check.PUBLISH);
        }
        Scene.carry(hub, 1, Check.UP, Check.PUBREC);
        Scene.carry(hub, 1, Check.UP, Check.PUBACK);
        Check.line("2 again, 1 and 3 being in use", hub, 1, Check.DOWN,
            Check.plain(Check.PUBREL, 1, 0), Check.publication(4, 1, 2));
        Scene.carry(hub, 1, Check.UP, Check.PUBREC);
        Scene.carry(hub, 1, Check.DOWN, Check.PUBREL);
        Scene.carry(hub, 1, Check.UP, Check.PUBCOMP);
        Check.line("1 again, 2 and 3 being in use", hub, 1, Check.DOWN, Check.publication(4, 1, 2),
            Check.plain(Check.PUBREL, 3, 0), Check.publication(5, 1, 1));
    }

    /** 'among the messages UNDER WAY': SENT and RELEASED ones */
    private static void idsOfReleasedOnesAreInUse() {
        MessageHub hub = threeOfFive();
        Scene.carry(hub, 1, Check.DOWN, Check.PUBLISH);
        Scene.carry(hub, 1, Check.DOWN, Check.PUBLISH);
        Scene.carry(hub, 1, Check.UP, Check.PUBREC);
        Scene.carry(hub, 1, Check.UP, Check.PUBACK);
        Check.line("the released one keeps its ID", hub, 1, Check.DOWN, Check.publication(3, 2, 3),
            Check.plain(Check.PUBREL, 1, 0), Check.publication(4, 1, 2));
    }

    /** 'from the same side': a client's IDs and the broker's for it are apart. */
    private static void idsOfTheTwoSidesAreApart() {
        MessageHub hub = new MessageHub();
        Check.enterAndWatch(hub, 0, "a", 2);
        hub.publish(0, Check.text("a"), 5, 2, false);
        hub.publish(0, Check.text("a"), 6, 2, false);
        Scene.carry(hub, 0, Check.UP, Check.PUBLISH);
        Check.line("the broker begins with 1, 1 and 2 being the client's", hub, 0, Check.DOWN,
            Check.publication(5, 2, 1), Check.plain(Check.PUBREC, 1, 0));
        Scene.carry(hub, 0, Check.DOWN, Check.PUBLISH);
        Check.due("the client holds 1, and has 1 and 2 under way", hub.store(0), 2 + 8 * 2 + 64);
        Check.due("the broker holds 1, and has 1 under way", hub.session(0), 1 + 64 + 512);
        Scene.carry(hub, 0, Check.UP, Check.PUBLISH);
        Check.due("the broker goes on with 2, though it holds 1", hub.packet(0, Check.DOWN, 1), Check.publication(6, 2, 2));
        Check.settle(hub);
        Check.inbox("each once", hub, 0, 5, 6);
        MessageHub other = new MessageHub();
        Check.join(other, 1, 9, 1);
        Check.enterAndWatch(other, 0, "a", 2);
        Scene.hand(other, 1, "a", 7, 2, false);
        Scene.carry(other, 0, Check.DOWN, Check.PUBLISH);
        other.publish(0, Check.text("b"), 8, 1, false);
        Check.line("the client begins with 1, though it holds 1", other, 0, Check.UP,
            Check.plain(Check.PUBREC, 1, 0), Check.publication(8, 1, 1));
    }

    /** 'of the same session': each session has IDs of its own. */
    private static void idsOfSessionsAreApart() {
        MessageHub hub = new MessageHub();
        Check.join(hub, 0, 9, 1);
        Check.enterAndWatch(hub, 1, "a", 1);
        Check.enterAndWatch(hub, 2, "a", 2);
        Scene.hand(hub, 0, "a", 5, 2, false);
        Check.line("session 1", hub, 1, Check.DOWN, Check.publication(5, 1, 1));
        Check.line("session 2", hub, 2, Check.DOWN, Check.publication(5, 2, 1));
        hub.publish(1, Check.text("b"), 6, 1, false);
        hub.publish(2, Check.text("b"), 7, 1, false);
        Check.line("client 1", hub, 1, Check.UP, Check.publication(6, 1, 1));
        Check.line("client 2", hub, 2, Check.UP, Check.publication(7, 1, 1));
    }

    /** 'an ID (PUBLISH of quality above 0, and 4 .. 7)': the others are without one. */
    private static void othersHaveNoId() {
        MessageHub hub = new MessageHub();
        Check.due("connect", hub.connect(0, false, 0, 1, 0), true);
        Check.due("CONNECT", hub.packet(0, Check.UP, 0), 1);
        hub.deliver(0, Check.UP);
        Check.due("CONNACK", hub.packet(0, Check.DOWN, 0), 2);
        hub.deliver(0, Check.DOWN);
        hub.publish(0, Check.text("a"), 0, 1, false);
        hub.publish(0, Check.text("a"), 0, 0, false);
        hub.subscribe(0, Check.text("b"), 0, false);
        hub.unsubscribe(0, Check.text("b"));
        hub.ping(0);
        hub.leave(0);
        Check.line("up", hub, 0, Check.UP, 3 + 16 + 256, 3, 8, 10, 12, 14);
        for (int n = 0; n < 5; n++) {
            hub.deliver(0, Check.UP);
        }
        Check.line("down", hub, 0, Check.DOWN, 4 + 256, 9, 11, 13);
    }

    /** Session 1, subscribed to a with quality 2 and a window of 1, has so many messages. */
    private static MessageHub loaded(int messages) {
        MessageHub hub = new MessageHub();
        Check.join(hub, 0, 50, 1);
        Check.join(hub, 1, 50, 1);
        Check.enter(hub, 1, "a", 2, false);
        Scene.handMany(hub, 0, "a", messages);
        return hub;
    }

    /** 'A REASON (the value of 4, 5, 9, 11) is 0, or 151 when there is no room': PUBACK */
    private static void pubackReasons() {
        for (int messages = 5; messages <= 6; messages++) {
            MessageHub hub = loaded(messages);
            hub.publish(0, Check.text("a"), 9, 1, false);
            Scene.carry(hub, 0, Check.UP, Check.PUBLISH);
            Check.line("PUBACK behind " + messages, hub, 0, Check.DOWN,
                Check.plain(Check.PUBACK, 1, messages < 6 ? 0 : 151));
        }
    }

    /** .. PUBREC */
    private static void pubrecReasons() {
        for (int messages = 5; messages <= 6; messages++) {
            MessageHub hub = loaded(messages);
            hub.publish(0, Check.text("a"), 9, 2, false);
            Scene.carry(hub, 0, Check.UP, Check.PUBLISH);
            Check.line("PUBREC behind " + messages, hub, 0, Check.DOWN,
                Check.plain(Check.PUBREC, 1, messages < 6 ? 0 : 151));
        }
    }

    /** .. SUBACK, whose reason is else the quality */
    private static void subackReasons() {
        MessageHub hub = new MessageHub();
        Check.join(hub, 0, 9, 1);
        String[] filters = {"a", "b", "c", "d", "e"};
        int[] reasons = {0, 1, 2, 0, 151};
        for (int n = 0; n < 5; n++) {
            Check.due("subscribe", hub.subscribe(0, Check.text(filters[n]), n % 3, false), true);
            Scene.carry(hub, 0, Check.UP, Check.SUBSCRIBE);
            Check.line("SUBACK " + n, hub, 0, Check.DOWN, Check.plain(Check.SUBACK, 0, reasons[n]));
            Scene.carry(hub, 0, Check.DOWN, Check.SUBACK);
        }
    }

    /** .. UNSUBACK, which has 17 where there was no subscription */
    private static void unsubackReasons() {
        MessageHub hub = new MessageHub();
        Check.join(hub, 0, 9, 1);
        Check.enter(hub, 0, "a", 1, false);
        for (int reason : new int[] {0, 17}) {
            Check.due("unsubscribe", hub.unsubscribe(0, Check.text("a")), true);
            Scene.carry(hub, 0, Check.UP, Check.UNSUBSCRIBE);
            Check.line("UNSUBACK", hub, 0, Check.DOWN, Check.plain(Check.UNSUBACK, 0, reason));
            Scene.carry(hub, 0, Check.DOWN, Check.UNSUBACK);
        }
    }

    /** 'of a PUBREL or PUBCOMP it is 0' */
    private static void pubrelAndPubcompHaveValueZero() {
        MessageHub hub = new MessageHub();
        Check.join(hub, 0, 9, 1);
        Check.enterAndWatch(hub, 1, "a", 2);
        hub.publish(0, Check.text("a"), 77, 2, true);
        Scene.carry(hub, 0, Check.UP, Check.PUBLISH);
        Scene.carry(hub, 0, Check.DOWN, Check.PUBREC);
        Check.line("a client's PUBREL", hub, 0, Check.UP, Check.plain(Check.PUBREL, 1, 0));
        Scene.carry(hub, 0, Check.UP, Check.PUBREL);
        Check.line("the broker's PUBCOMP", hub, 0, Check.DOWN, Check.plain(Check.PUBCOMP, 1, 0));
        Scene.carry(hub, 1, Check.DOWN, Check.PUBLISH);
        Scene.carry(hub, 1, Check.UP, Check.PUBREC);
        Check.line("the broker's PUBREL", hub, 1, Check.DOWN, Check.plain(Check.PUBREL, 1, 0));
        Scene.carry(hub, 1, Check.DOWN, Check.PUBREL);
        Check.line("a client's PUBCOMP", hub, 1, Check.UP, Check.plain(Check.PUBCOMP, 1, 0));
    }
}
