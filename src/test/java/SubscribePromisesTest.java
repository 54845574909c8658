/** Promises 7 and 8, and what the broker does with SUBSCRIBE and UNSUBSCRIBE. */
public final class SubscribePromisesTest {
    private static final String[] WRONG = {"a#", "#a", "#/a", "a+", "+a", "++", "##", "a/#/", "A", "a b", "\u00ff", "*"};

    public static void main(String[] args) {
        subscribeSends();
        bothAreRefused();
        subscriptionsAreSetAnew();
        onlyFourFit();
        retainedMessagesFollow();
        retainedMessagesFillTheSession();
        retainedOfQualityZeroNeedRoomInTheLine();
        unsubscribeTakesAway();
        Check.finish();
    }

    private static void subscribeSends() {
        MessageHub hub = new MessageHub();
        Check.join(hub, 0, 9, 3);
        String[] filters = {"#", "+", "/", "+/+", "a/#", "$", "+/+/+/+", "z09$/abc", "a/+/#"};
        for (int n = 0; n < filters.length; n++) {
            Check.due("7: subscribe " + filters[n], hub.subscribe(0, Check.text(filters[n]), n % 3, n % 2 == 1), true);
            long due = Check.plain(Check.SUBSCRIBE, 0, n % 3) + (n % 2 == 1 ? Check.MARK : 0);
            Check.due("7: SUBSCRIBE " + n, hub.packet(0, Check.UP, n), due);
        }
        Check.due("7: the broker knows nothing yet", hub.session(0), 0);
        Check.due("8: unsubscribe", hub.unsubscribe(0, Check.text("a/+/#")), true);
        Check.due("8: UNSUBSCRIBE", hub.packet(0, Check.UP, filters.length), Check.UNSUBSCRIBE);
    }

    private static void bothAreRefused() {
        MessageHub hub = new MessageHub();
        long good = Check.text("a");
        for (int c = -1; c <= 3; c++) {
            Check.due("7: nobody or closed", hub.subscribe(c, good, 0, false), false);
            Check.due("8: nobody or closed", hub.unsubscribe(c, good), false);
        }
        hub.connect(0, false, 0, 1, 0);
        Check.due("7: opening", hub.subscribe(0, good, 0, false), false);
        Check.due("8: opening", hub.unsubscribe(0, good), false);
        hub.deliver(0, Check.UP);
        hub.deliver(0, Check.DOWN);
        for (String wrong : WRONG) {
            Check.due("7: no filter " + wrong, hub.subscribe(0, Check.text(wrong), 0, false), false);
            Check.due("8: no filter " + wrong, hub.unsubscribe(0, Check.text(wrong)), false);
        }
        Check.due("7: no text", hub.subscribe(0, 0, 0, false), false);
        Check.due("8: no text", hub.unsubscribe(0, 0), false);
        for (int quality : new int[] {-1, 3, Integer.MIN_VALUE, Integer.MAX_VALUE}) {
            Check.due("7: quality " + quality, hub.subscribe(0, good, quality, false), false);
        }
        Check.due("7: refused calls send nothing", hub.line(0, Check.UP), 0);
        for (int n = 0; n < 12; n++) {
            Check.due("7: subscribe " + n, hub.subscribe(0, good, 0, false), true);
        }
        Check.due("7: line full", hub.subscribe(0, good, 0, false), false);
        Check.due("8: line full", hub.unsubscribe(0, good), false);
        hub.deliver(0, Check.UP);
        hub.leave(0);
        hub.deliver(0, Check.UP);
        Check.due("7: leaving", hub.subscribe(0, good, 0, false), false);
        Check.due("8: leaving", hub.unsubscribe(0, good), false);
    }

    private static void subscriptionsAreSetAnew() {
        MessageHub hub = new MessageHub();
        Check.join(hub, 0, 9, 3);
        Check.enter(hub, 0, "a", 2, false);
        Check.enter(hub, 0, "#", 1, false);
        hub.publish(0, Check.text("a"), 1, 2, false);
        hub.deliver(0, Check.UP);
        Check.line("7: a copy for each, in order, each of the lesser quality", hub, 0, Check.DOWN,
            Check.publication(1, 2, 1), Check.publication(1, 1, 2), Check.plain(Check.PUBREC, 1, 0));
        Check.settle(hub);
        Check.enter(hub, 0, "a", 1, true);
        Check.due("7: set anew, not added", hub.session(0), 2);
        hub.publish(0, Check.text("a"), 2, 2, false);
        hub.deliver(0, Check.UP);
        Check.due("7: NOLOCAL is set too", hub.packet(0, Check.DOWN, 0), Check.publication(2, 1, 1));
        Check.due("7: one copy alone", hub.line(0, Check.DOWN), 2);
        Check.settle(hub);
        Check.enter(hub, 0, "a", 0, false);
        hub.publish(0, Check.text("a"), 3, 2, false);
        hub.deliver(0, Check.UP);
        Check.line("7: quality 0 comes before what pumping sends", hub, 0, Check.DOWN,
            Check.publication(3, 0, 0), Check.publication(3, 1, 1), Check.plain(Check.PUBREC, 1, 0));
    }

    private static void onlyFourFit() {
        MessageHub hub = new MessageHub();
        Check.join(hub, 0, 9, 3);
        hub.publish(0, Check.text("e"), 9, 1, true);
        Check.settle(hub);
        for (String filter : new String[] {"a", "b", "c", "d"}) {
            Check.enter(hub, 0, filter, 1, false);
        }
        hub.subscribe(0, Check.text("e"), 1, false);
        hub.subscribe(0, Check.text("d"), 2, false);
        hub.deliver(0, Check.UP);
        hub.deliver(0, Check.UP);
        Check.line("7: no room for a fifth, and nothing retained for it", hub, 0, Check.DOWN,
            Check.plain(Check.SUBACK, 0, 151), Check.plain(Check.SUBACK, 0, 2));
        Check.due("7: four", hub.session(0), 4);
    }

    private static void retainedMessagesFollow() {
        MessageHub hub = new MessageHub();
        Check.join(hub, 0, 9, 3);
        Check.join(hub, 1, 9, 2);
        hub.publish(0, Check.text("r/2"), 2, 2, true);
        hub.publish(0, Check.text("r/1"), 1, 1, true);
        Check.settle(hub);
        hub.publish(0, Check.text("r/0"), 7, 0, true);
        hub.publish(0, Check.text("s"), 8, 1, true);
        Check.settle(hub);
        hub.subscribe(1, Check.text("r/+"), 2, true);
        hub.deliver(1, Check.UP);
        Check.line("7: SUBACK, quality 0 at once, the others by pumping", hub, 1, Check.DOWN,
            Check.plain(Check.SUBACK, 0, 2), Check.publication(7, 0, 0) + Check.MARK,
            Check.publication(2, 2, 1) + Check.MARK, Check.publication(1, 1, 2) + Check.MARK);
        hub.drop(1);
        hub.connect(1, false, 9, 2, 0);
        hub.deliver(1, Check.UP);
        Check.line("7: the same with AGAIN", hub, 1, Check.DOWN, Check.plain(Check.CONNACK, 0, 1),
            Check.publication(2, 2, 1) + Check.MARK + Check.AGAIN, Check.publication(1, 1, 2) + Check.MARK + Check.AGAIN);
        Check.settle(hub);
        hub.subscribe(1, Check.text("r/+"), 1, false);
        hub.deliver(1, Check.UP);
        Check.line("7: again for a subscription set anew, of the lesser quality", hub, 1, Check.DOWN,
            Check.plain(Check.SUBACK, 0, 1), Check.publication(7, 0, 0) + Check.MARK,
            Check.publication(2, 1, 1) + Check.MARK, Check.publication(1, 1, 2) + Check.MARK);
        Check.settle(hub);
        hub.subscribe(0, Check.text("s"), 1, true);
        hub.deliver(0, Check.UP);
        Check.due("7: NOLOCAL says nothing of retained ones", hub.packet(0, Check.DOWN, 1),
            Check.publication(8, 1, 1) + Check.MARK);
    }

    private static void retainedMessagesFillTheSession() {
        MessageHub hub = new MessageHub();
        Check.join(hub, 0, 9, 3);
        for (String topic : new String[] {"a", "b", "c", "d"}) {
            hub.publish(0, Check.text(topic), topic.charAt(0), 1, true);
        }
        Check.settle(hub);
        Check.join(hub, 1, 9, 1);
        hub.subscribe(1, Check.text("#"), 1, false);
        hub.deliver(1, Check.UP);
        Check.due("7: one under way, three queued", hub.session(1), 1 + 8 * 3 + 64);
        hub.subscribe(1, Check.text("+"), 2, false);
        hub.deliver(1, Check.UP);
        Check.due("7: up to six in all, the rest is lost", hub.session(1), 2 + 8 * 5 + 64);
        Check.settle(hub);
        Check.inbox("7: they came in order", hub, 1, 'a', 'b', 'c', 'd', 'a', 'b');
    }

    private static void retainedOfQualityZeroNeedRoomInTheLine() {
        MessageHub hub = new MessageHub();
        Check.join(hub, 0, 9, 3);
        for (String topic : new String[] {"a", "b", "c", "d"}) {
            hub.publish(0, Check.text(topic), 1, 0, true);
        }
        Check.settle(hub);
        for (int n = 0; n < 9; n++) {
            hub.ping(0);
        }
        hub.subscribe(0, Check.text("#"), 2, false);
        for (int n = 0; n < 10; n++) {
            hub.deliver(0, Check.UP);
        }
        Check.due("7: nine PONGs, a SUBACK and two of four", hub.line(0, Check.DOWN), 12);
        Check.due("7: they are not queued", hub.session(0), 1);
    }

    private static void unsubscribeTakesAway() {
        MessageHub hub = new MessageHub();
        Check.join(hub, 0, 9, 3);
        Check.enter(hub, 0, "a", 1, false);
        Check.enter(hub, 0, "+", 2, false);
        Check.enter(hub, 0, "#", 0, false);
        hub.unsubscribe(0, Check.text("+"));
        hub.unsubscribe(0, Check.text("+"));
        hub.unsubscribe(0, Check.text("a/#"));
        for (int n = 0; n < 3; n++) {
            Check.due("8: deliver", hub.deliver(0, Check.UP), Check.UNSUBSCRIBE);
        }
        Check.line("8: UNSUBACKs", hub, 0, Check.DOWN, Check.plain(Check.UNSUBACK, 0, 0),
            Check.plain(Check.UNSUBACK, 0, 17), Check.plain(Check.UNSUBACK, 0, 17));
        Check.due("8: the others stay", hub.session(0), 2);
        Check.settle(hub);
        hub.publish(0, Check.text("a"), 4, 2, false);
        hub.deliver(0, Check.UP);
        Check.line("8: copies for the others alone", hub, 0, Check.DOWN,
            Check.publication(4, 0, 0), Check.publication(4, 1, 1), Check.plain(Check.PUBREC, 1, 0));
        Check.settle(hub);
        Check.enter(hub, 0, "+", 0, false);
        Check.enter(hub, 0, "b", 0, false);
        Check.due("8: there is room again", hub.session(0), 4);
        hub.unsubscribe(0, Check.text("a"));
        hub.deliver(0, Check.UP);
        Check.line("8: the first of all", hub, 0, Check.DOWN, Check.plain(Check.UNSUBACK, 0, 0));
        Check.due("8: three are left", hub.session(0), 3);
    }
}
