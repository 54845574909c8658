/** Boundary cases of 'Terms, the broker', how it closes connections and receives packets: a test for each sentence. */
public final class SessionBoundariesTest {
    private static final String[] FOUR = {"a", "b", "c", "d"};

    public static void main(String[] args) {
        expiryZeroEndsAtANormalClosing();
        expiryZeroEndsAtAnAbruptClosing();
        expiryOneOutlivesBoth();
        countBecomesTheExpiry();
        linkClosesIfAttached();
        linkStaysIfNotAttached();
        willIsNotForANormalClosing();
        willComesWithQualityOneWithoutRetain();
        emptyWillIsAMessageToo();
        noWillNothingIsAccepted();
        sixthWillIsTaken();
        refusedWillIsLost();
        willFindsTheSessionEnded();
        willFindsTheOwnSession();
        oldConnectionIsClosedAbruptly();
        newConnectionHasThePacketsTerms();
        cleanEndsTheSession();
        cleanWithoutASession();
        notCleanWithoutASession();
        expiryIsThePackets();
        heldUnlessRefused();
        heldHasReasonZeroThoughItIsFull();
        pubrelWithoutAHeldId();
        fourthSubscriptionFits();
        fullSessionSetsSubscriptionsAnew();
        roomBehindUnsubscribe();
        noRoomNothingRetained();
        retainedUpToSix();
        retainedOfQualityZeroUpToTwelve();
        retainedOfTheLesserQuality();
        unsubscribeWantsTheSameFilter();
        subscriptionsKeepTheirOrder();
        anyPacketBreaksTheSilence();
        onlyPacketsBreakTheSilence();
        Check.finish();
    }

    private static MessageHub watched(String filter, int quality) {
        MessageHub hub = new MessageHub();
        Check.enterAndWatch(hub, 1, filter, quality);
        return hub;
    }

    /** Lets client c connect with a keep-alive of 1 and fall silent. */
    private static void fallSilent(MessageHub hub, int c, int expiry) {
        Scene.joinKeeping(hub, c, expiry, 1);
        Check.due("silence: first tick", hub.tick(), 0);
        Check.due("silence: second tick", hub.tick(), 1);
    }

    /** 'CLOSING .. NORMALLY: .. if the expiry is 0 the session ends (there is none any more)' */
    private static void expiryZeroEndsAtANormalClosing() {
        MessageHub hub = new MessageHub();
        Check.join(hub, 0, 0, 1);
        Check.enter(hub, 0, "a", 1, false);
        Scene.goAway(hub, 0);
        Check.due("ended", hub.session(0), -1);
        Check.join(hub, 0, 9, 1);
        Check.due("a new one, without subscriptions", hub.session(0), 0);
    }

    /** 'ABRUPTLY: the same' */
    private static void expiryZeroEndsAtAnAbruptClosing() {
        MessageHub hub = new MessageHub();
        fallSilent(hub, 0, 0);
        Check.due("ended", hub.session(0), -1);
        Check.due("no count is left to fall", hub.tick(), 0);
    }

    /** 'else its count becomes the expiry': the least expiry that is not 0 */
    private static void expiryOneOutlivesBoth() {
        MessageHub left = new MessageHub();
        Check.join(left, 0, 1, 1);
        Scene.goAway(left, 0);
        Check.due("left: there", left.session(0), 0);
        Check.due("left: one tick", left.tick(), 1);
        Check.due("left: ended", left.session(0), -1);
        MessageHub silent = new MessageHub();
        fallSilent(silent, 0, 1);
        Check.due("silent: there", silent.session(0), 0);
        Check.due("silent: one tick", silent.tick(), 1);
        Check.due("silent: ended", silent.session(0), -1);
    }

    /** .. and the greatest; a count begins anew with each closing */
    private static void countBecomesTheExpiry() {
        MessageHub hub = new MessageHub();
        for (int round = 0; round < 2; round++) {
            Check.join(hub, 0, 50, 1);
            Scene.goAway(hub, 0);
            for (int n = 0; n < 49; n++) {
                Check.due("count", hub.tick(), 0);
            }
        }
        Check.due("there", hub.session(0), 0);
        Check.due("the fiftieth tick", hub.tick(), 1);
        Check.due("ended", hub.session(0), -1);
    }

    /** '(its link closes, if attached)' */
    private static void linkClosesIfAttached() {
        for (int state = Scene.OPENING; state <= Scene.LEAVING; state++) {
            MessageHub hub = new MessageHub();
            Check.due("connect", hub.connect(0, false, 9, 1, 1), true);
            Scene.carry(hub, 0, Check.UP, Check.CONNECT);
            if (state != Scene.OPENING) {
                Scene.carry(hub, 0, Check.DOWN, Check.CONNACK);
            }
            if (state == Scene.LEAVING) {
                Check.due("leave", hub.leave(0), true);
            }
            Check.due("attached", hub.state(0), state + 12);
            Check.due("silence", hub.tick() + hub.tick(), 1);
            Check.due("closed in state " + state, hub.state(0), 0);
            Check.due("no packets", hub.line(0, Check.UP) + hub.line(0, Check.DOWN), 0);
        }
    }

    /** .. another link does not */
    private static void linkStaysIfNotAttached() {
        MessageHub hub = new MessageHub();
        Scene.joinKeeping(hub, 0, 9, 1);
        hub.drop(0);
        Check.due("connect", hub.connect(0, false, 7, 1, 0), true);
        Check.due("silence", hub.tick() + hub.tick(), 1);
        Check.due("the new link is there", hub.state(0), Scene.OPENING);
        Check.line("with its CONNECT", hub, 0, Check.UP, Check.plain(Check.CONNECT, 0, 7));
    }

    /** A will is accepted when a connection is closed abruptly, not normally. */
    private static void willIsNotForANormalClosing() {
        MessageHub hub = watched("#", 2);
        hub.will(0, Check.text("w"), 5);
        Check.join(hub, 0, 9, 1);
        Scene.goAway(hub, 0);
        Check.due("left", hub.line(1, Check.DOWN), 0);
        fallSilent(hub, 0, 9);
        Check.due("silent", hub.line(1, Check.DOWN), 1);
    }

    /** 'that is accepted from c with quality 1, without RETAIN' */
    private static void willComesWithQualityOneWithoutRetain() {
        for (int quality = 0; quality <= 2; quality++) {
            MessageHub hub = watched("#", quality);
            hub.will(0, Check.text("w"), Integer.MIN_VALUE);
            fallSilent(hub, 0, 9);
            Check.line("for quality " + quality, hub, 1, Check.DOWN,
                Check.publication(Integer.MIN_VALUE, Math.min(quality, 1), Math.min(quality, 1)));
            Check.due("not retained", hub.retained(Check.text("w")), 0);
        }
    }

    /** .. its value may be 0; without RETAIN that takes nothing away */
    private static void emptyWillIsAMessageToo() {
        MessageHub hub = watched("#", 1);
        Check.join(hub, 2, 50, 1);
        Scene.hand(hub, 2, "w", 7, 0, true);
        Scene.carry(hub, 1, Check.DOWN, Check.PUBLISH);
        hub.will(0, Check.text("w"), 0);
        fallSilent(hub, 0, 9);
        Check.line("it comes", hub, 1, Check.DOWN, Check.publication(0, 1, 1));
        Check.due("what is retained stays", hub.retained(Check.text("w")), 7);
    }

    /** 'if it had a WILL' */
    private static void noWillNothingIsAccepted() {
        MessageHub hub = watched("#", 1);
        fallSilent(hub, 0, 9);
        hub.will(0, Check.text("w"), 5);
        hub.will(0, 0, 6);
        fallSilent(hub, 0, 9);
        Check.due("nothing", hub.line(1, Check.DOWN), 0);
    }

    private static MessageHub watcherWith(int messages) {
        MessageHub hub = watched("w", 1);
        hub.drop(1);
        Check.join(hub, 2, 50, 1);
        Scene.handMany(hub, 2, "w", messages);
        hub.will(0, Check.text("w"), 9);
        return hub;
    }

    /** A will has room as any other message. */
    private static void sixthWillIsTaken() {
        MessageHub hub = watcherWith(5);
        fallSilent(hub, 0, 9);
        Check.due("six", hub.session(1), 1 + 8 * 6);
    }

    /** '(if it is refused, it is lost)': the connection is closed all the same, and it does not come later */
    private static void refusedWillIsLost() {
        MessageHub hub = watcherWith(6);
        fallSilent(hub, 0, 9);
        Check.due("closed", hub.state(0), 0);
        Check.due("still six", hub.session(1), 1 + 8 * 6);
        Check.due("nor is it retained", hub.retained(Check.text("w")), 0);
        Check.join(hub, 1, 50, 3);
        Check.settle(hub);
        Check.inbox("the six", hub, 1, 1, 2, 3, 4, 5, 6);
        Check.join(hub, 0, 9, 1);
        Check.due("nor does it come with the next CONNECT", hub.session(1), 1);
    }

    /** 'and then .. that is accepted': with expiry 0 the session has ended before */
    private static void willFindsTheSessionEnded() {
        MessageHub hub = new MessageHub();
        hub.will(0, Check.text("w"), 5);
        Scene.joinKeeping(hub, 0, 0, 1);
        Check.enter(hub, 0, "w", 1, false);
        Check.due("silence", hub.tick() + hub.tick(), 1);
        Check.due("ended", hub.session(0), -1);
        Check.join(hub, 0, 9, 1);
        Check.due("nothing comes", hub.session(0) + hub.line(0, Check.DOWN), 0);
    }

    /** .. 'accepted from c': else its own session has a copy, but not by NOLOCAL */
    private static void willFindsTheOwnSession() {
        for (int noLocal = 0; noLocal <= 1; noLocal++) {
            MessageHub hub = new MessageHub();
            hub.will(0, Check.text("w"), 5);
            Scene.joinKeeping(hub, 0, 9, 1);
            Check.enter(hub, 0, "w", 1, noLocal == 1);
            Check.due("silence", hub.tick() + hub.tick(), 1);
            Check.due("in the queue", hub.session(0), 1 + 8 * (1 - noLocal));
        }
    }

    /** 'It receives CONNECT: an old connection with c is closed abruptly.' */
    private static void oldConnectionIsClosedAbruptly() {
        for (int expiry = 0; expiry <= 1; expiry++) {
            MessageHub hub = watched("w", 1);
            hub.will(0, Check.text("w"), 5);
            Check.join(hub, 0, expiry, 1);
            Check.enter(hub, 0, "a", 1, false);
            hub.drop(0);
            Check.due("connect", hub.connect(0, false, 9, 1, 0), true);
            Check.due("not before it comes", hub.line(1, Check.DOWN), 0);
            Scene.carry(hub, 0, Check.UP, Check.CONNECT);
            Check.line("the will", hub, 1, Check.DOWN, Check.publication(5, 1, 1));
            Check.line("with expiry " + expiry, hub, 0, Check.DOWN, Check.plain(Check.CONNACK, 0, expiry));
            Check.due("the session", hub.session(0), expiry);
        }
    }

    /** 'There is a new one, attached, with the packet's window, keep-alive and will.' */
    private static void newConnectionHasThePacketsTerms() {
        MessageHub hub = watched("w", 1);
        hub.will(0, Check.text("w"), 5);
        Scene.joinKeeping(hub, 0, 9, 1);
        hub.drop(0);
        hub.will(0, Check.text("w"), 6);
        Scene.joinKeeping(hub, 0, 9, 20);
        Check.due("attached", hub.state(0), 14);
        Check.line("the old will", hub, 1, Check.DOWN, Check.publication(5, 1, 1));
        for (int n = 0; n < 20; n++) {
            Check.due("the new keep-alive", hub.tick(), 0);
        }
        Check.due("is over", hub.tick(), 1);
        Check.due("the new will", hub.packet(1, Check.DOWN, 1), Check.publication(6, 1, 2));
    }

    /** 'If it is CLEAN, the session ends; .. otherwise a new one begins and CONNACK has value 0' */
    private static void cleanEndsTheSession() {
        MessageHub hub = watched("a", 2);
        Check.join(hub, 0, 9, 1);
        Scene.handMany(hub, 0, "a", 4);
        hub.publish(1, Check.text("b"), 5, 2, false);
        Scene.carry(hub, 1, Check.UP, Check.PUBLISH);
        Check.due("much in it", hub.session(1), 1 + 8 + 64 * 3 + 512);
        hub.drop(1);
        Check.due("connect", hub.connect(1, true, 9, 3, 0), true);
        Check.due("not before it comes", hub.session(1), 1 + 8 + 64 * 3 + 512);
        Scene.carry(hub, 1, Check.UP, Check.CONNECT);
        Check.due("nothing in it", hub.session(1), 0);
        Check.line("CONNACK alone", hub, 1, Check.DOWN, Check.plain(Check.CONNACK, 0, 0));
    }

    /** .. where there is none to end */
    private static void cleanWithoutASession() {
        MessageHub hub = new MessageHub();
        hub.connect(0, true, 9, 1, 0);
        Scene.carry(hub, 0, Check.UP, Check.CONNECT);
        Check.line("CONNACK", hub, 0, Check.DOWN, Check.plain(Check.CONNACK, 0, 0));
        Check.due("a new session", hub.session(0), 0);
    }

    /** 'CONNACK with value 1 is sent if there is a session' */
    private static void notCleanWithoutASession() {
        MessageHub hub = new MessageHub();
        for (int value = 0; value <= 1; value++) {
            hub.connect(0, false, 9, 1, 0);
            Scene.carry(hub, 0, Check.UP, Check.CONNECT);
            Check.line("CONNACK", hub, 0, Check.DOWN, Check.plain(Check.CONNACK, 0, value));
            hub.drop(0);
        }
    }

    /** 'The expiry is the packet's.' */
    private static void expiryIsThePackets() {
        MessageHub hub = new MessageHub();
        Check.join(hub, 0, 50, 1);
        hub.drop(0);
        Check.join(hub, 0, 0, 1);
        Scene.goAway(hub, 0);
        Check.due("0 in place of 50", hub.session(0), -1);
        Check.join(hub, 0, 1, 1);
        hub.drop(0);
        Check.join(hub, 0, 2, 1);
        Scene.goAway(hub, 0);
        Check.due("2 in place of 1", hub.tick() * 10 + hub.tick(), 1);
    }

    /** A full session 1, without a link, and client 0 whose message of quality 2 is refused. */
    private static MessageHub refusedOnce() {
        MessageHub hub = watched("a", 1);
        hub.drop(1);
        Check.join(hub, 0, 9, 1);
        Scene.handMany(hub, 0, "a", 6);
        hub.publish(0, Check.text("a"), 7, 2, false);
        Scene.carry(hub, 0, Check.UP, Check.PUBLISH);
        Check.line("refused", hub, 0, Check.DOWN, Check.plain(Check.PUBREC, 1, 151));
        return hub;
    }

    /** 'the ID is held unless it was refused': so it may be accepted when it comes again */
    private static void heldUnlessRefused() {
        MessageHub hub = refusedOnce();
        Check.due("not held", hub.session(0), 0);
        hub.drop(0);
        Check.join(hub, 1, 50, 3);
        for (int n = 0; n < 3; n++) {
            Scene.carry(hub, 1, Check.DOWN, Check.PUBLISH);
            Scene.carry(hub, 1, Check.UP, Check.PUBACK);
        }
        Check.join(hub, 0, 9, 1);
        Scene.carry(hub, 0, Check.UP, Check.PUBLISH);
        Check.line("accepted", hub, 0, Check.DOWN, Check.plain(Check.PUBREC, 1, 0));
        Check.due("held", hub.session(0), 512);
        Check.settle(hub);
        Check.inbox("all seven", hub, 1, 1, 2, 3, 4, 5, 6, 7);
    }

    /** 'a PUBREC with the reason (0 if it was held)', though a new message would be refused */
    private static void heldHasReasonZeroThoughItIsFull() {
        MessageHub hub = watched("a", 1);
        hub.drop(1);
        Check.join(hub, 0, 9, 1);
        Scene.handMany(hub, 0, "a", 5);
        hub.publish(0, Check.text("a"), 6, 2, true);
        Scene.carry(hub, 0, Check.UP, Check.PUBLISH);
        Check.due("full", hub.session(1), 1 + 8 * 6);
        hub.drop(0);
        Check.join(hub, 0, 9, 1);
        Check.line("again", hub, 0, Check.UP, Check.publication(6, 2, 1) + Check.AGAIN + Check.MARK);
        Scene.carry(hub, 0, Check.UP, Check.PUBLISH);
        Check.line("reason 0", hub, 0, Check.DOWN, Check.plain(Check.PUBREC, 1, 0));
        Check.due("not accepted again", hub.session(1), 1 + 8 * 6);
        Check.due("held once", hub.session(0), 512);
    }

    /** 'PUBREL: the ID is held no more; a PUBCOMP', also for an ID that is not held */
    private static void pubrelWithoutAHeldId() {
        MessageHub hub = new MessageHub();
        Check.join(hub, 0, 9, 1);
        hub.publish(0, Check.text("a"), 5, 2, false);
        Scene.carry(hub, 0, Check.UP, Check.PUBLISH);
        Scene.carry(hub, 0, Check.DOWN, Check.PUBREC);
        for (int n = 0; n < 2; n++) {
            Scene.carry(hub, 0, Check.UP, Check.PUBREL);
            Check.due("not held", hub.session(0), 0);
            Check.line("PUBCOMP", hub, 0, Check.DOWN, Check.plain(Check.PUBCOMP, 1, 0));
            hub.drop(0);
            Check.join(hub, 0, 9, 1);
        }
    }

    private static void subscribe(String what, MessageHub hub, String filter, int quality, int reason) {
        Check.due(what + ": subscribe", hub.subscribe(0, Check.text(filter), quality, false), true);
        Scene.carry(hub, 0, Check.UP, Check.SUBSCRIBE);
        Check.due(what, hub.packet(0, Check.DOWN, 0), Check.plain(Check.SUBACK, 0, reason));
        Scene.carry(hub, 0, Check.DOWN, Check.SUBACK);
    }

    private static MessageHub fourSubscriptions() {
        MessageHub hub = new MessageHub();
        Check.join(hub, 0, 9, 3);
        for (String filter : FOUR) {
            subscribe("there is room", hub, filter, 1, 1);
        }
        return hub;
    }

    /** 'at most 4 SUBSCRIPTIONS', 'if there are fewer than 4' */
    private static void fourthSubscriptionFits() {
        MessageHub hub = fourSubscriptions();
        Check.due("four", hub.session(0), 4);
        subscribe("no room", hub, "e", 1, 151);
        Check.due("still four", hub.session(0), 4);
        hub.publish(0, Check.text("e"), 5, 0, false);
        Scene.carry(hub, 0, Check.UP, Check.PUBLISH);
        Check.due("none for the fifth", hub.line(0, Check.DOWN), 0);
    }

    /** 'if the session has a subscription with this filter, quality and NOLOCAL of it become the packet's', with four too */
    private static void fullSessionSetsSubscriptionsAnew() {
        for (String filter : FOUR) {
            MessageHub hub = fourSubscriptions();
            subscribe("set anew", hub, filter, 2, 2);
            Check.due("four", hub.session(0), 4);
            hub.publish(0, Check.text(filter), 5, 2, false);
            Scene.carry(hub, 0, Check.UP, Check.PUBLISH);
            Check.due("the new quality", hub.packet(0, Check.DOWN, 0), Check.publication(5, 2, 1));
            Check.settle(hub);
            Check.enter(hub, 0, filter, 2, true);
            hub.publish(0, Check.text(filter), 6, 0, false);
            Scene.carry(hub, 0, Check.UP, Check.PUBLISH);
            Check.due("the new NOLOCAL", hub.line(0, Check.DOWN), 0);
        }
    }

    /** 'the subscription is taken away', and there is room for another */
    private static void roomBehindUnsubscribe() {
        for (String filter : FOUR) {
            MessageHub hub = fourSubscriptions();
            hub.unsubscribe(0, Check.text(filter));
            Scene.carry(hub, 0, Check.UP, Check.UNSUBSCRIBE);
            Scene.carry(hub, 0, Check.DOWN, Check.UNSUBACK);
            Check.due("three", hub.session(0), 3);
            subscribe("room for one", hub, "e", 1, 1);
            subscribe("not for two", hub, filter, 1, 151);
        }
    }

    /** 'Then, unless there was no room, for each retained message that matches' */
    private static void noRoomNothingRetained() {
        MessageHub hub = fourSubscriptions();
        Check.join(hub, 1, 9, 1);
        Scene.hand(hub, 1, "e", 5, 1, true);
        hub.subscribe(0, Check.text("e"), 1, false);
        Scene.carry(hub, 0, Check.UP, Check.SUBSCRIBE);
        Check.line("SUBACK alone", hub, 0, Check.DOWN, Check.plain(Check.SUBACK, 0, 151));
        Check.due("nothing in the queue", hub.session(0), 4);
    }

    /** 'otherwise it goes to the end of the queue if that and what is under way are fewer than 6' */
    private static void retainedUpToSix() {
        for (int load = 4; load <= 6; load++) {
            MessageHub hub = new MessageHub();
            Check.join(hub, 0, 50, 1);
            Check.join(hub, 1, 50, 1);
            Check.enter(hub, 1, "x", 1, false);
            Scene.handMany(hub, 0, "x", load);
            Scene.hand(hub, 0, "a", 8, 1, true);
            Scene.hand(hub, 0, "b", 9, 1, true);
            Check.due("subscribe", hub.subscribe(1, Check.text("#"), 1, false), true);
            Scene.carry(hub, 1, Check.UP, Check.SUBSCRIBE);
            Check.due("SUBACK", hub.packet(1, Check.DOWN, 1), Check.plain(Check.SUBACK, 0, 1));
            Check.due("six behind " + load, hub.session(1), 2 + 8 * 5 + 64);
            Check.settle(hub);
            Check.due("the first of the retained", hub.inbox(1, 4), load == 4 ? 8 : 5);
            Check.due("the last", hub.inbox(1, 5), load == 4 ? 9 : load == 5 ? 8 : 6);
        }
    }

    /** 'quality 0: sent as told above' */
    private static void retainedOfQualityZeroUpToTwelve() {
        for (int packets = 9; packets <= 11; packets++) {
            MessageHub hub = new MessageHub();
            Check.join(hub, 0, 9, 1);
            for (int n = 0; n < 4; n++) {
                Scene.hand(hub, 0, FOUR[n], n + 1, 0, true);
            }
            Scene.fillDown(hub, 0, packets);
            hub.subscribe(0, Check.text("#"), 2, false);
            Scene.carry(hub, 0, Check.UP, Check.SUBSCRIBE);
            Check.due("twelve", hub.line(0, Check.DOWN), 12);
            Check.due("SUBACK", hub.packet(0, Check.DOWN, packets), Check.plain(Check.SUBACK, 0, 2));
            Check.due("the last that fits", hub.packet(0, Check.DOWN, 11),
                packets == 11 ? Check.plain(Check.SUBACK, 0, 2) : Check.publication(11 - packets, 0, 0) + Check.MARK);
            Check.due("none in the queue", hub.session(0), 1);
        }
    }

    /** 'a copy with RETAIN and the lesser quality' */
    private static void retainedOfTheLesserQuality() {
        for (int message = 0; message <= 2; message++) {
            for (int subscription = 0; subscription <= 2; subscription++) {
                MessageHub hub = new MessageHub();
                Check.join(hub, 0, 9, 1);
                Scene.hand(hub, 0, "a", -5, message, true);
                hub.subscribe(0, Check.text("a"), subscription, true);
                Scene.carry(hub, 0, Check.UP, Check.SUBSCRIBE);
                int least = Math.min(message, subscription);
                Check.line("quality " + message + " for " + subscription, hub, 0, Check.DOWN,
                    Check.plain(Check.SUBACK, 0, subscription),
                    Check.publication(-5, least, least > 0 ? 1 : 0) + Check.MARK);
            }
        }
    }

    /** 'UNSUBACK with the value 0, or 17 if there was none' */
    private static void unsubscribeWantsTheSameFilter() {
        MessageHub hub = new MessageHub();
        Check.join(hub, 0, 9, 1);
        Check.enter(hub, 0, "a/+", 1, false);
        String[] filters = {"a/b", "#", "a/#", "+/+", "a", "a/+", "a/+"};
        int[] values = {17, 17, 17, 17, 17, 0, 17};
        for (int n = 0; n < filters.length; n++) {
            hub.unsubscribe(0, Check.text(filters[n]));
            Scene.carry(hub, 0, Check.UP, Check.UNSUBSCRIBE);
            Check.line(filters[n], hub, 0, Check.DOWN, Check.plain(Check.UNSUBACK, 0, values[n]));
            Scene.carry(hub, 0, Check.DOWN, Check.UNSUBACK);
            Check.due("subscriptions", hub.session(0), n < 5 ? 1 : 0);
        }
    }

    /** 'SUBSCRIPTIONS .. in order', 'it comes behind the others'; one set anew stays where it is */
    private static void subscriptionsKeepTheirOrder() {
        MessageHub hub = new MessageHub();
        Check.join(hub, 0, 9, 3);
        Check.enter(hub, 0, "a", 2, false);
        Check.enter(hub, 0, "+", 1, false);
        Check.enter(hub, 0, "a", 1, false);
        Check.enter(hub, 0, "+", 2, false);
        hub.publish(0, Check.text("a"), 5, 2, false);
        Scene.carry(hub, 0, Check.UP, Check.PUBLISH);
        Check.line("a before +", hub, 0, Check.DOWN, Check.publication(5, 1, 1), Check.publication(5, 2, 2),
            Check.plain(Check.PUBREC, 1, 0));
    }

    private static void receiveAll(MessageHub hub) {
        while (hub.line(0, Check.DOWN) > 0) {
            Check.due("receive all", hub.deliver(0, Check.DOWN) > 0, true);
        }
    }

    /** Client 0, with a keep-alive of 1, has a packet of this type before all others in its up line. */
    private static MessageHub before(int type) {
        MessageHub hub = new MessageHub();
        Scene.joinKeeping(hub, 0, 9, 1);
        int quality = type == Check.PUBLISH ? 0 : type == Check.PUBACK ? 1 : 2;
        switch (type) {
            case Check.PING -> hub.ping(0);
            case Check.SUBSCRIBE -> hub.subscribe(0, Check.text("b"), 1, false);
            case Check.UNSUBSCRIBE -> hub.unsubscribe(0, Check.text("b"));
            case Check.CONNECT -> {
                hub.drop(0);
                hub.connect(0, false, 9, 1, 1);
            }
            case Check.PUBREL -> {
                hub.publish(0, Check.text("b"), 5, quality, false);
                Scene.carry(hub, 0, Check.UP, Check.PUBLISH);
                receiveAll(hub);
            }
            default -> {
                Check.enter(hub, 0, "a", quality, false);
                hub.publish(0, Check.text("a"), 5, quality, false);
                for (int n = 0; n < 9 && hub.packet(0, Check.UP, 0) % 16 != type; n++) {
                    hub.deliver(0, Check.UP);
                    receiveAll(hub);
                }
            }
        }
        return hub;
    }

    /** 'Any packet makes the connection's SILENCE 0.' */
    private static void anyPacketBreaksTheSilence() {
        int[] types = {Check.CONNECT, Check.PUBLISH, Check.PUBACK, Check.PUBREC, Check.PUBREL, Check.PUBCOMP,
            Check.SUBSCRIBE, Check.UNSUBSCRIBE, Check.PING};
        for (int type : types) {
            MessageHub hub = before(type);
            Check.due("silence 1 before " + type, hub.tick(), 0);
            Scene.carry(hub, 0, Check.UP, type);
            Check.due("silence 1 behind " + type, hub.tick(), 0);
            Check.due("silence 2 behind " + type, hub.tick(), 1);
        }
    }

    /** .. what is sent and not received, or received by a client, does not */
    private static void onlyPacketsBreakTheSilence() {
        MessageHub hub = new MessageHub();
        Scene.joinKeeping(hub, 0, 9, 2);
        Scene.fillDown(hub, 0, 12);
        Check.due("silence 1", hub.tick(), 0);
        Check.due("sent", hub.ping(0), true);
        Check.due("not received", hub.deliver(0, Check.UP), -1);
        Check.due("silence 2", hub.tick(), 0);
        Scene.carry(hub, 0, Check.DOWN, Check.PONG);
        Check.due("too silent", hub.tick(), 1);
    }
}
