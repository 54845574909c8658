/** Boundary cases of promises 14 to 20: a test for each sentence (those of 21 are in TextBoundariesTest). */
public final class LookBoundariesTest {
    public static void main(String[] args) {
        stateOfNobody();
        stateInAllItsParts();
        sessionOfNobody();
        sessionWhereThereIsNone();
        sessionOfNothing();
        sessionWithMostInIt();
        sessionWithTwoIdsHeld();
        lineOfNobody();
        lineWithoutALink();
        lineBeyondTwelve();
        packetOfNobody();
        packetBeforeTheFirst();
        packetBehindTheLast();
        packetWithTheSignOfItsValue();
        packetWithoutAValue();
        connectShowsExpiryAndClean();
        subscribeShowsQualityAsValue();
        inboxOfNobody();
        inboxOfNothing();
        inboxBehindTheLast();
        inboxBeforeTheFirst();
        inboxUpToNinetyNine();
        storeOfNobody();
        storeOfNothing();
        storeWithMostInIt();
        retainedOfNothing();
        retainedOfWrongTexts();
        looksChangeNothing();
        Check.finish();
    }

    /** Promise 14: '-1 when there is no c' */
    private static void stateOfNobody() {
        for (int c : Scene.NOBODY) {
            Check.due("14: state " + c, new MessageHub().state(c), -1);
        }
    }

    /** Promise 14: '0 CLOSED .. 3 LEAVING, plus 4 if the broker has a connection with it, plus 8 if that is attached' */
    private static void stateInAllItsParts() {
        MessageHub hub = new MessageHub();
        Check.due("14: closed", hub.state(0), 0);
        hub.connect(0, false, 9, 1, 0);
        Check.due("14: opening", hub.state(0), 1);
        hub.deliver(0, Check.UP);
        Check.due("14: opening, attached", hub.state(0), 13);
        hub.deliver(0, Check.DOWN);
        Check.due("14: connected", hub.state(0), 14);
        hub.leave(0);
        Check.due("14: leaving", hub.state(0), 15);
        hub.drop(0);
        Check.due("14: closed, with a connection", hub.state(0), 4);
        hub.connect(0, false, 9, 1, 0);
        Check.due("14: opening, with an old connection", hub.state(0), 5);
    }

    /** Promise 15: '-1 when there is none', as for nobody */
    private static void sessionOfNobody() {
        MessageHub hub = new MessageHub();
        for (int c = 0; c < 3; c++) {
            Check.join(hub, c, 9, 1);
        }
        for (int c : Scene.NOBODY) {
            Check.due("15: session " + c, hub.session(c), -1);
        }
    }

    /** Promise 15: '-1 when there is none': before the first CONNECT is received, and when it has ended */
    private static void sessionWhereThereIsNone() {
        MessageHub hub = new MessageHub();
        Check.due("15: at first", hub.session(0), -1);
        hub.connect(0, false, 0, 1, 0);
        Check.due("15: a CONNECT on its way", hub.session(0), -1);
        hub.deliver(0, Check.UP);
        Check.due("15: begun", hub.session(0), 0);
        hub.drop(0);
        Check.due("15: as long as there is a connection", hub.session(0), 0);
        hub.crash();
        Check.due("15: ended", hub.session(0), -1);
    }

    /** Promise 15: a session with nothing in it is not none */
    private static void sessionOfNothing() {
        MessageHub hub = new MessageHub();
        Check.join(hub, 2, 9, 1);
        Check.due("15: empty", hub.session(2), 0);
        Check.due("15: another's", hub.session(1), -1);
    }

    /** Promise 15: 'its subscriptions, plus 8 times .. queue, plus 64 times those under way', with six messages */
    private static void sessionWithMostInIt() {
        for (int window = 1; window <= 3; window++) {
            MessageHub hub = new MessageHub();
            Check.join(hub, 0, 9, 1);
            Check.join(hub, 1, 9, window);
            for (String filter : new String[] {"a", "b", "c", "d"}) {
                Check.enter(hub, 1, filter, 2, false);
            }
            Scene.handMany(hub, 0, "a", 6);
            Check.due("15: window " + window, hub.session(1), 4 + 8 * (6 - window) + 64 * window);
            hub.drop(1);
            Check.due("15: without a link", hub.session(1), 4 + 8 * (6 - window) + 64 * window);
        }
        MessageHub hub = new MessageHub();
        Check.join(hub, 0, 9, 1);
        Check.enterAndWatch(hub, 1, "a", 2);
        hub.drop(1);
        Scene.handMany(hub, 0, "a", 6);
        Check.due("15: six in the queue", hub.session(1), 1 + 8 * 6);
    }

    /** Promise 15: 'plus 512 times the IDs it holds' */
    private static void sessionWithTwoIdsHeld() {
        MessageHub hub = new MessageHub();
        Check.join(hub, 0, 9, 1);
        for (int n = 1; n <= 2; n++) {
            hub.publish(0, Check.text("a"), n, 2, false);
            hub.deliver(0, Check.UP);
            Check.due("15: held", hub.session(0), 512 * n);
        }
        hub.publish(0, Check.text("a"), 3, 2, false);
        Check.due("15: no third is sent", hub.deliver(0, Check.UP), 0);
        hub.deliver(0, Check.DOWN);
        hub.deliver(0, Check.UP);
        Check.due("15: one held no more", hub.session(0), 512);
    }

    /** Promise 16: '0 when there is no c' */
    private static void lineOfNobody() {
        MessageHub hub = new MessageHub();
        for (int c = 0; c < 3; c++) {
            Check.join(hub, c, 9, 1);
            Scene.fillDown(hub, c, 1);
            Scene.fillUp(hub, c, 1);
        }
        for (int c : Scene.NOBODY) {
            Check.due("16: up", hub.line(c, Check.UP), 0);
            Check.due("16: down", hub.line(c, Check.DOWN), 0);
        }
    }

    /** Promise 16: without a link there are no packets */
    private static void lineWithoutALink() {
        MessageHub hub = new MessageHub();
        Check.due("16: up", hub.line(0, Check.UP), 0);
        Check.due("16: down", hub.line(0, Check.DOWN), 0);
        hub.connect(0, false, 9, 1, 0);
        Check.due("16: up with a link", hub.line(0, Check.UP), 1);
        Check.due("16: down with a link", hub.line(0, Check.DOWN), 0);
    }

    /** Promise 16: 'How many packets are in the line', also beyond 12 */
    private static void lineBeyondTwelve() {
        MessageHub hub = new MessageHub();
        Check.enterAndWatch(hub, 0, "a", 1);
        Scene.fillDown(hub, 0, 12);
        Check.join(hub, 1, 9, 1);
        Scene.handMany(hub, 1, "a", 3);
        Check.due("16: fifteen", hub.line(0, Check.DOWN), 15);
        Check.due("17: the last of them", hub.packet(0, Check.DOWN, 14), Check.publication(3, 1, 3));
        Check.due("17: none behind", hub.packet(0, Check.DOWN, 15), 0);
    }

    /** Promise 17: '0 when there is none': nobody's */
    private static void packetOfNobody() {
        MessageHub hub = new MessageHub();
        for (int c = 0; c < 3; c++) {
            Check.join(hub, c, 9, 1);
            Scene.fillDown(hub, c, 1);
            Scene.fillUp(hub, c, 1);
        }
        for (int c : Scene.NOBODY) {
            Check.due("17: up", hub.packet(c, Check.UP, 0), 0);
            Check.due("17: down", hub.packet(c, Check.DOWN, 0), 0);
        }
    }

    /** Promise 17: 'from 0, the first to be received' */
    private static void packetBeforeTheFirst() {
        MessageHub hub = new MessageHub();
        Check.join(hub, 0, 9, 1);
        hub.ping(0);
        hub.unsubscribe(0, Check.text("a"));
        Check.due("17: the first", hub.packet(0, Check.UP, 0), Check.PING);
        for (int k : new int[] {-1, -2, Integer.MIN_VALUE}) {
            Check.due("17: packet " + k, hub.packet(0, Check.UP, k), 0);
            Check.due("17: packet " + k + " of an empty line", hub.packet(0, Check.DOWN, k), 0);
            Check.due("17: packet " + k + " without a link", hub.packet(1, Check.UP, k), 0);
        }
    }

    /** Promise 17: '0 when there is none': behind the last, of an empty line, without a link */
    private static void packetBehindTheLast() {
        MessageHub hub = new MessageHub();
        Check.join(hub, 0, 9, 1);
        Scene.fillUp(hub, 0, 12);
        Check.due("17: the last", hub.packet(0, Check.UP, 11), Check.PING);
        for (int k : new int[] {12, 13, Integer.MAX_VALUE}) {
            Check.due("17: packet " + k, hub.packet(0, Check.UP, k), 0);
        }
        for (int k : new int[] {0, 1, Integer.MAX_VALUE}) {
            Check.due("17: packet " + k + " of an empty line", hub.packet(0, Check.DOWN, k), 0);
            Check.due("17: packet " + k + " without a link", hub.packet(1, Check.DOWN, k), 0);
        }
        hub.deliver(0, Check.UP);
        Check.due("17: one fewer", hub.packet(0, Check.UP, 11), 0);
        hub.drop(0);
        Check.due("17: no link any more", hub.packet(0, Check.UP, 0), 0);
    }

    /** Promise 17: 'The value counts as a long, with its sign.' */
    private static void packetWithTheSignOfItsValue() {
        int[] values = {-1, 1, Integer.MIN_VALUE, Integer.MAX_VALUE, 32768, -32769, 65536, -65536};
        for (int value : values) {
            MessageHub hub = new MessageHub();
            Check.join(hub, 0, 9, 1);
            hub.publish(0, Check.text("a"), value, 2, true);
            long want = 3 + 32 + 128 + 256 + 65536L * value;
            Check.due("17: value " + value, hub.packet(0, Check.UP, 0), want);
            hub.publish(0, Check.text("a"), value, 0, false);
            Check.due("17: value " + value + ", quality 0", hub.packet(0, Check.UP, 1), 3 + 65536L * value);
            hub.drop(0);
            Check.join(hub, 0, 9, 1);
            Check.due("17: value " + value + " again", hub.packet(0, Check.UP, 0), want + 64);
        }
    }

    /** Promise 17: '(0 without one)': an ID, a value */
    private static void packetWithoutAValue() {
        MessageHub hub = new MessageHub();
        Check.join(hub, 0, 9, 1);
        hub.publish(0, Check.text("a"), 0, 0, false);
        hub.ping(0);
        hub.unsubscribe(0, Check.text("a"));
        hub.leave(0);
        Check.line("17: types alone", hub, 0, Check.UP, 3, 12, 10, 14);
    }

    /** Promise 17: '128 if .. of CONNECT: if CLEAN', 'of a CONNECT the expiry' */
    private static void connectShowsExpiryAndClean() {
        MessageHub hub = new MessageHub();
        hub.will(0, Check.text("w"), -1);
        hub.connect(0, true, 50, 3, 20);
        hub.connect(1, false, 0, 3, 20);
        hub.connect(2, true, 0, 1, 0);
        Check.line("17: clean, 50", hub, 0, Check.UP, 1 + 128 + 65536 * 50);
        Check.line("17: not clean, 0", hub, 1, Check.UP, 1);
        Check.line("17: clean, 0", hub, 2, Check.UP, 1 + 128);
    }

    /** Promise 17: '128 .. of SUBSCRIBE: if NOLOCAL'; promise 7: 'the quality as its value' */
    private static void subscribeShowsQualityAsValue() {
        MessageHub hub = new MessageHub();
        Check.join(hub, 0, 9, 1);
        for (int quality = 0; quality <= 2; quality++) {
            hub.subscribe(0, Check.text("a"), quality, quality == 1);
            long want = 8 + 65536L * quality + (quality == 1 ? 128 : 0);
            Check.due("17: SUBSCRIBE", hub.packet(0, Check.UP, quality), want);
        }
    }

    /** Client 0 with so many values in its inbox: 1, 2, 3 .. */
    private static MessageHub inboxOf(int values) {
        MessageHub hub = new MessageHub();
        Check.join(hub, 0, 9, 1);
        Check.join(hub, 1, 9, 1);
        Check.enter(hub, 0, "a", 0, false);
        for (int n = 1; n <= values; n++) {
            Scene.hand(hub, 1, "a", n, 0, false);
            Scene.carry(hub, 0, Check.DOWN, Check.PUBLISH);
        }
        return hub;
    }

    /** Promise 18: '0 when there is none': nobody's */
    private static void inboxOfNobody() {
        MessageHub hub = inboxOf(1);
        for (int c : Scene.NOBODY) {
            Check.due("18: value of " + c, hub.inbox(c, 0), 0);
            Check.due("18: count of " + c, hub.inbox(c, -1), 0);
        }
    }

    /** Promise 18: 'k = -1: how many there are' */
    private static void inboxOfNothing() {
        MessageHub hub = inboxOf(1);
        Check.due("18: count of none", hub.inbox(1, -1), 0);
        Check.due("18: value of none", hub.inbox(1, 0), 0);
        Check.due("18: count of one", hub.inbox(0, -1), 1);
        Check.due("18: value of one", hub.inbox(0, 0), 1);
    }

    /** Promise 18: '0 when there is none': behind the last */
    private static void inboxBehindTheLast() {
        MessageHub hub = inboxOf(3);
        Check.due("18: the last", hub.inbox(0, 2), 3);
        for (int k : new int[] {3, 4, 98, 99, 100, 101, Integer.MAX_VALUE}) {
            Check.due("18: value " + k, hub.inbox(0, k), 0);
        }
    }

    /** Promise 18: 'from 0': below -1 there is nothing */
    private static void inboxBeforeTheFirst() {
        MessageHub hub = inboxOf(3);
        Check.due("18: the first", hub.inbox(0, 0), 1);
        Check.due("18: the count", hub.inbox(0, -1), 3);
        for (int k : new int[] {-2, -3, -100, Integer.MIN_VALUE}) {
            Check.due("18: value " + k, hub.inbox(0, k), 0);
        }
    }

    /** Promise 18: 'up to 99'; all that there are count */
    private static void inboxUpToNinetyNine() {
        for (int values = 99; values <= 102; values++) {
            MessageHub hub = inboxOf(values);
            Check.due("18: count", hub.inbox(0, -1), values);
            Check.due("18: value 0", hub.inbox(0, 0), 1);
            Check.due("18: value 98", hub.inbox(0, 98), 99);
            Check.due("18: value 99", hub.inbox(0, 99), values > 99 ? 100 : 0);
            Check.due("18: value 100", hub.inbox(0, 100), 0);
            Check.due("18: value 101", hub.inbox(0, 101), 0);
        }
    }

    /** Promise 19: '-1 when there is no c' */
    private static void storeOfNobody() {
        for (int c : Scene.NOBODY) {
            Check.due("19: store " + c, new MessageHub().store(c), -1);
        }
    }

    /** Promise 19: a client with nothing in its store */
    private static void storeOfNothing() {
        MessageHub hub = new MessageHub();
        for (int c = 0; c < 3; c++) {
            Check.due("19: store " + c, hub.store(c), 0);
        }
        hub.publish(1, Check.text("a"), 1, 1, false);
        Check.due("19: another's", hub.store(0) + hub.store(2), 0);
        Check.due("19: one", hub.store(1), 1);
    }

    /** Promise 19: four messages, two under way, three IDs held */
    private static void storeWithMostInIt() {
        MessageHub hub = new MessageHub();
        Check.join(hub, 1, 9, 1);
        Check.enterAndWatch(hub, 0, "a", 2);
        for (int n = 1; n <= 3; n++) {
            Scene.hand(hub, 1, "a", n, 2, false);
            Scene.carry(hub, 0, Check.DOWN, Check.PUBLISH);
            Check.due("19: held", hub.store(0), 64 * n);
        }
        for (int n = 1; n <= 4; n++) {
            hub.publish(0, Check.text("b"), n, 1, false);
            Check.due("19: stored", hub.store(0), n + 8 * Math.min(n, 2) + 64 * 3);
        }
        hub.drop(0);
        Check.due("19: without a link", hub.store(0), 4 + 8 * 2 + 64 * 3);
    }

    /** Promise 20: '0 when there is none' */
    private static void retainedOfNothing() {
        MessageHub hub = new MessageHub();
        Check.due("20: at first", hub.retained(Check.text("a")), 0);
        Check.join(hub, 0, 9, 1);
        hub.publish(0, Check.text("a"), -5, 0, true);
        Check.due("20: on its way", hub.retained(Check.text("a")), 0);
        hub.deliver(0, Check.UP);
        Check.due("20: there", hub.retained(Check.text("a")), -5);
        for (String other : new String[] {"b", "a/", "/a", "aa", "$a"}) {
            Check.due("20: for " + other, hub.retained(Check.text(other)), 0);
        }
        Scene.hand(hub, 0, "a", 0, 0, true);
        Check.due("20: taken away", hub.retained(Check.text("a")), 0);
    }

    /** Promise 20: 'for a topic': what is no topic has none, though it would match one */
    private static void retainedOfWrongTexts() {
        MessageHub hub = new MessageHub();
        Check.join(hub, 0, 9, 1);
        Scene.hand(hub, 0, "a", 5, 0, true);
        for (String wrong : new String[] {"", "+", "#", "A", "a/#", "\u00e1"}) {
            Check.due("20: for '" + wrong + "'", hub.retained(Check.text(wrong)), 0);
        }
        for (long odd : new long[] {-1, Long.MIN_VALUE, Long.MAX_VALUE}) {
            Check.due("20: for " + odd, hub.retained(odd), 0);
        }
    }

    /** The calls that look change nothing, whatever is asked. */
    private static void looksChangeNothing() {
        Twins.refused("looks", hub -> {
            hub.will(0, Check.text("w"), 3);
            Scene.joinKeeping(hub, 0, 5, 3);
            Check.enterAndWatch(hub, 2, "#", 2);
            Scene.hand(hub, 0, "a", 5, 2, true);
            hub.tick();
        }, hub -> {
            for (int c = -1; c <= 3; c++) {
                hub.state(c);
                hub.session(c);
                hub.store(c);
                for (int k = -2; k <= 3; k++) {
                    hub.inbox(c, k);
                    hub.packet(c, Check.UP, k);
                    hub.packet(c, Check.DOWN, k);
                }
                hub.line(c, Check.UP);
                hub.line(c, Check.DOWN);
            }
            hub.retained(Check.text("a"));
            return hub.matches(Check.text("a"), Check.text("b"));
        });
    }
}
