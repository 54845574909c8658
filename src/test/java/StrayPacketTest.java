/**
 * What the document says of packets for which there is no such message, and of pumping where there is nothing to
 * pump: a test for each sentence (see Stray).
 */
public final class StrayPacketTest {
    public static void main(String[] args) {
        clientHasNoSuchMessage();
        clientHasOneOfAnotherQuality();
        clientHasOneOfAnotherStage();
        clientHasOneThatWaits();
        clientIsPumpedAllTheSame();
        clientReleasesAgain();
        brokerHasNoSuchMessage();
        brokerSendsPubrelIfThereIsNoneToo();
        brokerHasOneOfAnotherQuality();
        brokerHasOneOfAnotherStage();
        brokerPumpsAllTheSame();
        brokerReleasesAgain();
        brokerPumpsAfterSubscribe();
        Check.finish();
    }

    private static void strayDown(MessageHub hub, int type, int id, int value) {
        Stray.put(hub, 0, Check.DOWN, type, id, value);
        Scene.carry(hub, 0, Check.DOWN, type);
    }

    private static void strayUp(MessageHub hub, int type, int id) {
        Stray.put(hub, 1, Check.UP, type, id, 0);
        Scene.carry(hub, 1, Check.UP, type);
    }

    private static void unchanged(String what, MessageHub hub, String before) {
        Check.due(what + " changes nothing", Scene.view(hub).equals(before), true);
    }

    /** Client 0 has a SENT message of quality 1 with ID 1, one of quality 2 with ID 2, and one that waits. */
    private static MessageHub sender() {
        MessageHub hub = new MessageHub();
        Check.join(hub, 0, 9, 1);
        for (int n = 1; n <= 3; n++) {
            hub.publish(0, Check.text("a"), n, n == 2 ? 2 : 1, false);
        }
        return hub;
    }

    /** .. whose message of quality 2 is RELEASED. */
    private static MessageHub releasedSender() {
        MessageHub hub = sender();
        strayDown(hub, Check.PUBREC, 2, 0);
        return hub;
    }

    /** 'Where there is no such message nothing is done but pumping': no message with this ID */
    private static void clientHasNoSuchMessage() {
        MessageHub hub = sender();
        String before = Scene.view(hub);
        for (int id : new int[] {3, 8}) {
            strayDown(hub, Check.PUBACK, id, 0);
            strayDown(hub, Check.PUBREC, id, 0);
            strayDown(hub, Check.PUBREC, id, 151);
            strayDown(hub, Check.PUBCOMP, id, 0);
        }
        unchanged("an unknown ID", hub, before);
    }

    /** .. none of this quality: PUBACK is for quality 1, PUBREC and PUBCOMP for quality 2 */
    private static void clientHasOneOfAnotherQuality() {
        MessageHub hub = sender();
        String before = Scene.view(hub);
        strayDown(hub, Check.PUBACK, 2, 0);
        strayDown(hub, Check.PUBREC, 1, 0);
        strayDown(hub, Check.PUBREC, 1, 151);
        strayDown(hub, Check.PUBCOMP, 1, 0);
        unchanged("another quality", hub, before);
        MessageHub released = releasedSender();
        before = Scene.view(released);
        strayDown(released, Check.PUBACK, 2, 0);
        unchanged("PUBACK for a released one", released, before);
    }

    /** .. none of this stage: PUBCOMP is for a RELEASED one, reason 151 for a SENT one */
    private static void clientHasOneOfAnotherStage() {
        MessageHub hub = sender();
        String before = Scene.view(hub);
        strayDown(hub, Check.PUBCOMP, 2, 0);
        unchanged("PUBCOMP for a sent one", hub, before);
        MessageHub released = releasedSender();
        before = Scene.view(released);
        strayDown(released, Check.PUBREC, 2, 151);
        unchanged("reason 151 for a released one", released, before);
    }

    /** .. one that waits has no ID, though it had one: SENT ones that wait again */
    private static void clientHasOneThatWaits() {
        MessageHub hub = new MessageHub();
        Check.join(hub, 0, 0, 1);
        for (int n = 1; n <= 4; n++) {
            hub.publish(0, Check.text("a"), n, n % 2 == 0 ? 2 : 1, false);
        }
        strayDown(hub, Check.PUBREC, 2, 0);
        hub.crash();
        Check.join(hub, 0, 0, 1);
        Check.due("one gone, two under way, one waits", hub.store(0), 3 + 8 * 2);
        String before = Scene.view(hub);
        strayDown(hub, Check.PUBREC, 0, 0);
        strayDown(hub, Check.PUBACK, 0, 0);
        strayDown(hub, Check.PUBCOMP, 0, 0);
        unchanged("no ID", hub, before);
    }

    /** .. 'but pumping' */
    private static void clientIsPumpedAllTheSame() {
        for (int type : new int[] {Check.PUBACK, Check.PUBREC, Check.PUBCOMP}) {
            MessageHub hub = new MessageHub();
            hub.connect(0, false, 9, 1, 0);
            for (int n = 1; n <= 3; n++) {
                hub.publish(0, Check.text("a"), n, 1, false);
            }
            Stray.connectUnpumped(hub, 0);
            Check.due("not pumped", hub.store(0), 3);
            strayDown(hub, type, 5, 0);
            Check.due("pumped by " + type, hub.store(0), 3 + 8 * 2);
            Check.due("sent by " + type, hub.line(0, Check.UP), 3);
        }
    }

    /** 'it is RELEASED, and a PUBREL is sent (also when it was released before)' */
    private static void clientReleasesAgain() {
        MessageHub hub = releasedSender();
        int sent = hub.line(0, Check.UP);
        Check.due("the first PUBREL", hub.packet(0, Check.UP, sent - 1), Check.plain(Check.PUBREL, 2, 0));
        int store = hub.store(0);
        strayDown(hub, Check.PUBREC, 2, 0);
        Check.due("one more packet", hub.line(0, Check.UP), sent + 1);
        Check.due("a PUBREL again", hub.packet(0, Check.UP, sent), Check.plain(Check.PUBREL, 2, 0));
        Check.due("the store is the same", hub.store(0), store);
        strayDown(hub, Check.PUBCOMP, 2, 0);
        Check.due("still released: a PUBCOMP ends it, and the third goes", hub.store(0), 2 + 8 * 2);
    }

    /** Session 1 has a SENT message of quality 1 with ID 1, one of quality 2 with ID 2, and one in its queue. */
    private static MessageHub receiver() {
        MessageHub hub = new MessageHub();
        Check.join(hub, 0, 9, 1);
        Check.join(hub, 1, 9, 2);
        Check.enter(hub, 1, "a", 2, false);
        for (int n = 1; n <= 3; n++) {
            Scene.hand(hub, 0, "a", n, n == 2 ? 2 : 1, false);
        }
        Check.due("two under way, one queued", hub.session(1), 1 + 8 + 64 * 2);
        return hub;
    }

    /** The broker: 'PUBACK: the SENT message of quality 1 with this ID is done', 'PUBCOMP: the RELEASED one is done' */
    private static void brokerHasNoSuchMessage() {
        MessageHub hub = receiver();
        String before = Scene.view(hub);
        for (int id : new int[] {3, 8}) {
            strayUp(hub, Check.PUBACK, id);
            strayUp(hub, Check.PUBCOMP, id);
        }
        unchanged("an unknown ID", hub, before);
    }

    /** 'a PUBREL is sent (if there is none too)' */
    private static void brokerSendsPubrelIfThereIsNoneToo() {
        MessageHub hub = receiver();
        int sent = hub.line(1, Check.DOWN);
        strayUp(hub, Check.PUBREC, 7);
        Check.due("one more packet", hub.line(1, Check.DOWN), sent + 1);
        Check.due("a PUBREL", hub.packet(1, Check.DOWN, sent), Check.plain(Check.PUBREL, 7, 0));
        Check.due("the session is the same", hub.session(1), 1 + 8 + 64 * 2);
        strayUp(hub, Check.PUBREC, 1);
        Check.due("a PUBREL for one of quality 1", hub.packet(1, Check.DOWN, sent + 1), Check.plain(Check.PUBREL, 1, 0));
        strayUp(hub, Check.PUBCOMP, 1);
        Check.due("which is not released", hub.session(1), 1 + 8 + 64 * 2);
        strayUp(hub, Check.PUBACK, 1);
        Check.due("but still sent", hub.session(1), 1 + 64 * 2);
    }

    private static void brokerHasOneOfAnotherQuality() {
        MessageHub hub = receiver();
        String before = Scene.view(hub);
        strayUp(hub, Check.PUBACK, 2);
        unchanged("PUBACK for quality 2", hub, before);
        strayUp(hub, Check.PUBCOMP, 1);
        unchanged("PUBCOMP for quality 1", hub, before);
    }

    private static void brokerHasOneOfAnotherStage() {
        MessageHub hub = receiver();
        String before = Scene.view(hub);
        strayUp(hub, Check.PUBCOMP, 2);
        unchanged("PUBCOMP for a sent one", hub, before);
        strayUp(hub, Check.PUBREC, 2);
        before = Scene.view(hub);
        strayUp(hub, Check.PUBACK, 2);
        unchanged("PUBACK for a released one", hub, before);
    }

    /** 'After these three the session is pumped.' */
    private static void brokerPumpsAllTheSame() {
        for (int type : new int[] {Check.PUBACK, Check.PUBREC, Check.PUBCOMP}) {
            MessageHub hub = receiver();
            Stray.widenUnpumped(hub, 1, 3);
            Check.due("not pumped", hub.session(1), 1 + 8 + 64 * 2);
            strayUp(hub, type, 5);
            Check.due("pumped by " + type, hub.session(1), 1 + 64 * 3);
            Check.due("behind what answers", hub.packet(1, Check.DOWN, hub.line(1, Check.DOWN) - 1), Check.publication(3, 1, 3));
        }
    }

    /** .. and a PUBREC for one that was released before has a PUBREL too */
    private static void brokerReleasesAgain() {
        MessageHub hub = receiver();
        strayUp(hub, Check.PUBREC, 2);
        int sent = hub.line(1, Check.DOWN);
        strayUp(hub, Check.PUBREC, 2);
        Check.due("a PUBREL again", hub.packet(1, Check.DOWN, sent), Check.plain(Check.PUBREL, 2, 0));
        strayUp(hub, Check.PUBCOMP, 2);
        Check.due("done once", hub.session(1), 1 + 64 * 2);
    }

    /** SUBSCRIBE: 'Then the session is pumped': also when there was no room, and when nothing is retained */
    private static void brokerPumpsAfterSubscribe() {
        MessageHub hub = receiver();
        for (String filter : new String[] {"b", "c", "d"}) {
            hub.subscribe(1, Check.text(filter), 0, false);
            Scene.carry(hub, 1, Check.UP, Check.SUBSCRIBE);
        }
        Stray.widenUnpumped(hub, 1, 3);
        Check.due("not pumped", hub.session(1), 4 + 8 + 64 * 2);
        int sent = hub.line(1, Check.DOWN);
        hub.subscribe(1, Check.text("e"), 0, false);
        Scene.carry(hub, 1, Check.UP, Check.SUBSCRIBE);
        Check.due("pumped without room", hub.session(1), 4 + 64 * 3);
        Check.due("a SUBACK first", hub.packet(1, Check.DOWN, sent), Check.plain(Check.SUBACK, 0, 151));
        Check.due("then a PUBLISH", hub.packet(1, Check.DOWN, sent + 1), Check.publication(3, 1, 3));
        MessageHub roomy = receiver();
        Stray.widenUnpumped(roomy, 1, 3);
        roomy.subscribe(1, Check.text("e"), 0, false);
        Scene.carry(roomy, 1, Check.UP, Check.SUBSCRIBE);
        Check.due("pumped with room", roomy.session(1), 2 + 64 * 3);
    }
}
