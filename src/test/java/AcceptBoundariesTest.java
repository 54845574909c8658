/** Boundary cases of 'Terms, the broker', what it retains, how it pumps and accepts: a test for each sentence. */
public final class AcceptBoundariesTest {
    private static final String[] FOUR = {"a", "b", "c", "d"};

    public static void main(String[] args) {
        fourAreRetained();
        oneIsRetainedForATopic();
        replacedWhereItStandsThoughThereAreFour();
        emptyTakesAway();
        emptyIsNotRetained();
        onlyZeroIsEmpty();
        withoutRetainNothingIsRetained();
        retainedOutliveTheirSenders();
        windowsOfOneToThree();
        aLesserWindowWaits();
        aGreaterWindowGoesOn();
        pumpingNeedsAnAttachedConnection();
        noLocalIsForTheOwnClientAlone();
        qualitiesAreTheLesser();
        copiesAreWithoutRetain();
        sixInTheQueue();
        sixInQueueAndUnderWay();
        copiesOfOneMessageCountTogether();
        oneFullSessionRefusesForAll();
        noLocalNeedsNoRoom();
        qualityZeroNeedsNoRoomInTheSession();
        aFullSessionWithoutCopyRefusesNothing();
        refusedQualityZeroCannotBe();
        elevenPacketsTakeOneMore();
        twelvePacketsLoseIt();
        moreThanTwelveLoseIt();
        secondCopyIsLostAtTwelve();
        pumpingNeedsNoRoomInTheLine();
        Check.finish();
    }

    /** Client 0, without subscriptions, and client 1, with one: quality and window as given. */
    private static MessageHub pair(String filter, int quality, int window) {
        MessageHub hub = new MessageHub();
        Check.join(hub, 0, 50, 3);
        Check.join(hub, 1, 50, window);
        Check.enter(hub, 1, filter, quality, false);
        return hub;
    }

    private static MessageHub fourRetained() {
        MessageHub hub = new MessageHub();
        Check.join(hub, 0, 50, 3);
        for (int n = 0; n < 4; n++) {
            Scene.hand(hub, 0, FOUR[n], n + 1, 0, true);
        }
        return hub;
    }

    /** Looks at what is retained, in order, by a subscription of client 2. */
    private static void retained(String what, MessageHub hub, int... values) {
        Check.join(hub, 2, 50, 1);
        Check.due(what + ": subscribe", hub.subscribe(2, Check.text("#"), 0, false), true);
        Scene.carry(hub, 2, Check.UP, Check.SUBSCRIBE);
        long[] packets = new long[values.length + 1];
        packets[0] = Check.SUBACK;
        for (int n = 0; n < values.length; n++) {
            packets[n + 1] = Check.publication(values[n], 0, 0) + Check.MARK;
        }
        Check.line(what, hub, 2, Check.DOWN, packets);
    }

    /** 'RETAINED messages, at most 4', '(unless .. there are 4)' */
    private static void fourAreRetained() {
        MessageHub hub = fourRetained();
        Check.due("the fourth", hub.retained(Check.text("d")), 4);
        Scene.hand(hub, 0, "e", 5, 0, true);
        Scene.hand(hub, 0, "e", 6, 1, true);
        Check.due("no fifth", hub.retained(Check.text("e")), 0);
        retained("four", hub, 1, 2, 3, 4);
    }

    /** 'one a topic' */
    private static void oneIsRetainedForATopic() {
        MessageHub hub = new MessageHub();
        Check.join(hub, 0, 50, 3);
        for (int n = 1; n <= 5; n++) {
            Scene.hand(hub, 0, "a", n, n % 3, true);
            Check.due("the last one", hub.retained(Check.text("a")), n);
        }
        Scene.hand(hub, 0, "a/", 7, 0, true);
        Scene.hand(hub, 0, "aa", 8, 0, true);
        Check.due("another topic is another", hub.retained(Check.text("a")), 5);
        retained("three", hub, 5, 7, 8);
    }

    /** 'what is retained for its topic is replaced by it where it stands', also when there are four */
    private static void replacedWhereItStandsThoughThereAreFour() {
        MessageHub hub = fourRetained();
        Scene.hand(hub, 0, "a", 11, 0, true);
        Scene.hand(hub, 0, "d", 14, 0, true);
        Scene.hand(hub, 0, "b", 12, 0, true);
        retained("in the same order", hub, 11, 12, 3, 14);
    }

    /** 'if its value is 0 it is taken away instead': the first, the last, one between; then there is room behind */
    private static void emptyTakesAway() {
        for (int n = 0; n < 4; n++) {
            MessageHub hub = fourRetained();
            Scene.hand(hub, 0, FOUR[n], 0, n % 3, true);
            Check.due("taken away", hub.retained(Check.text(FOUR[n])), 0);
            Scene.hand(hub, 0, "e", 5, 0, true);
            Scene.hand(hub, 0, "w", 6, 0, true);
            int[] left = new int[4];
            for (int k = 0; k < 3; k++) {
                left[k] = k < n ? k + 1 : k + 2;
            }
            left[3] = 5;
            retained("the others, and one more behind", hub, left);
        }
    }

    /** 'if there is none it comes behind the others (unless the value is 0 ..)' */
    private static void emptyIsNotRetained() {
        MessageHub hub = new MessageHub();
        Check.join(hub, 0, 50, 3);
        for (String topic : FOUR) {
            Scene.hand(hub, 0, topic, 0, 1, true);
        }
        Scene.hand(hub, 0, "e", 5, 0, true);
        Scene.hand(hub, 0, "a", 0, 0, true);
        retained("empty ones take no place", hub, 5);
    }

    /** 'a value (0: empty)': negative values and the ends of int are not */
    private static void onlyZeroIsEmpty() {
        MessageHub hub = new MessageHub();
        Check.join(hub, 0, 50, 3);
        int[] values = {-1, Integer.MIN_VALUE, Integer.MAX_VALUE, 65536};
        for (int n = 0; n < 4; n++) {
            Scene.hand(hub, 0, FOUR[n], values[n], 0, true);
            Check.due("retained", hub.retained(Check.text(FOUR[n])), values[n]);
        }
        retained("all of them", hub, values);
    }

    /** 'if the message has RETAIN' */
    private static void withoutRetainNothingIsRetained() {
        MessageHub hub = new MessageHub();
        Check.join(hub, 0, 50, 3);
        Scene.hand(hub, 0, "a", 5, 2, false);
        Check.due("nothing", hub.retained(Check.text("a")), 0);
        Scene.hand(hub, 0, "a", 6, 2, true);
        Scene.hand(hub, 0, "a", 7, 2, false);
        Scene.hand(hub, 0, "a", 0, 2, false);
        Check.due("neither replaced nor taken away", hub.retained(Check.text("a")), 6);
    }

    /** 'THE BROKER keeps (also over a crash) RETAINED messages' */
    private static void retainedOutliveTheirSenders() {
        MessageHub hub = new MessageHub();
        Check.join(hub, 0, 0, 3);
        Scene.hand(hub, 0, "a", 5, 0, true);
        hub.crash();
        Check.due("over a crash, and the end of the session", hub.retained(Check.text("a")), 5);
        for (int n = 0; n < 60; n++) {
            hub.tick();
        }
        Check.due("without end", hub.retained(Check.text("a")), 5);
    }

    /** 'fewer than its WINDOW are under way' */
    private static void windowsOfOneToThree() {
        for (int window = 1; window <= 3; window++) {
            MessageHub hub = pair("a", 1, window);
            for (int n = 1; n <= 5; n++) {
                Scene.hand(hub, 0, "a", n, 1, false);
                int under = Math.min(n, window);
                Check.due("window " + window + ", " + n, hub.session(1), 1 + 8 * (n - under) + 64 * under);
                Check.due("sent of window " + window + ", " + n, hub.line(1, Check.DOWN), under);
            }
            Scene.carry(hub, 1, Check.DOWN, Check.PUBLISH);
            Scene.carry(hub, 1, Check.UP, Check.PUBACK);
            Check.due("one done, one more", hub.session(1), 1 + 8 * (4 - window) + 64 * window);
        }
    }

    /** .. of the connection that there is: more may be under way from before */
    private static void aLesserWindowWaits() {
        MessageHub hub = pair("a", 1, 3);
        Scene.handMany(hub, 0, "a", 4);
        hub.drop(1);
        Check.join(hub, 1, 50, 1);
        for (int under = 2; under >= 1; under--) {
            Scene.carry(hub, 1, Check.DOWN, Check.PUBLISH);
            Scene.carry(hub, 1, Check.UP, Check.PUBACK);
            Check.due("the queue waits", hub.session(1), 1 + 8 + 64 * under);
        }
        Scene.carry(hub, 1, Check.DOWN, Check.PUBLISH);
        Scene.carry(hub, 1, Check.UP, Check.PUBACK);
        Check.due("until none is under way", hub.session(1), 1 + 64);
    }

    /** .. and fewer, which pumping at CONNECT makes good */
    private static void aGreaterWindowGoesOn() {
        MessageHub hub = pair("a", 1, 1);
        Scene.handMany(hub, 0, "a", 4);
        hub.drop(1);
        Check.due("connect", hub.connect(1, false, 50, 3, 0), true);
        Scene.carry(hub, 1, Check.UP, Check.CONNECT);
        Check.line("one again, two more", hub, 1, Check.DOWN, Check.plain(Check.CONNACK, 0, 1),
            Check.publication(1, 1, 1) + Check.AGAIN, Check.publication(2, 1, 2), Check.publication(3, 1, 3));
    }

    /** 'PUMPING session c: while c's connection is attached' */
    private static void pumpingNeedsAnAttachedConnection() {
        MessageHub hub = pair("a", 1, 3);
        hub.drop(1);
        Scene.hand(hub, 0, "a", 1, 1, false);
        Check.due("a connection that is not attached", hub.session(1), 1 + 8);
        Check.due("connect", hub.connect(1, false, 50, 3, 0), true);
        Scene.hand(hub, 0, "a", 2, 1, false);
        Check.due("a new link before its CONNECT", hub.session(1) * 10 + hub.line(1, Check.DOWN), (1 + 8 * 2) * 10);
        hub.crash();
        Check.join(hub, 0, 50, 3);
        Scene.hand(hub, 0, "a", 3, 1, false);
        Check.due("no connection", hub.session(1), 1 + 8 * 3);
        Check.join(hub, 1, 50, 3);
        Check.due("attached", hub.session(1), 1 + 64 * 3);
    }

    /** '(but not one with NOLOCAL if s is c)' */
    private static void noLocalIsForTheOwnClientAlone() {
        MessageHub hub = new MessageHub();
        for (int c = 0; c < 3; c++) {
            Check.join(hub, c, 50, 3);
            Check.enter(hub, c, "a", 0, true);
        }
        for (int c = 0; c < 3; c++) {
            Scene.hand(hub, c, "a", 5 + c, 0, false);
            Check.due("the own client", hub.line(c, Check.DOWN), 0);
            for (int s = 0; s < 3; s++) {
                Check.due("the others", hub.line(s, Check.DOWN), s == c ? 0 : 1);
                hub.deliver(s, Check.DOWN);
            }
        }
        Check.enter(hub, 0, "a", 0, false);
        Scene.hand(hub, 0, "a", 9, 0, false);
        Check.due("without NOLOCAL", hub.packet(0, Check.DOWN, 0), Check.publication(9, 0, 0));
    }

    /** 'its quality the lesser of the message's and the subscription's' */
    private static void qualitiesAreTheLesser() {
        for (int message = 0; message <= 2; message++) {
            for (int subscription = 0; subscription <= 2; subscription++) {
                MessageHub hub = pair("a", subscription, 3);
                Scene.hand(hub, 0, "a", 5, message, false);
                int least = Math.min(message, subscription);
                Check.line("quality " + message + " for " + subscription, hub, 1, Check.DOWN,
                    Check.publication(5, least, least > 0 ? 1 : 0));
            }
        }
    }

    /** 'without RETAIN' */
    private static void copiesAreWithoutRetain() {
        for (int quality = 0; quality <= 2; quality++) {
            MessageHub hub = pair("a", quality, 3);
            Scene.hand(hub, 0, "a", 5, quality, true);
            Check.line("no mark", hub, 1, Check.DOWN, Check.publication(5, quality, quality > 0 ? 1 : 0));
        }
    }

    private static void refuses(String what, MessageHub hub, String topic, boolean want) {
        refuses(what, hub, 0, topic, want);
    }

    /** Whether a message of client c, which has no packet down, is refused, and nothing done for it. */
    private static void refuses(String what, MessageHub hub, int c, String topic, boolean want) {
        String before = Scene.view(hub);
        Check.due(what + ": publish", hub.publish(c, Check.text(topic), 9, 1, true), true);
        Scene.carry(hub, c, Check.UP, Check.PUBLISH);
        Check.line(what, hub, c, Check.DOWN, Check.plain(Check.PUBACK, 1, want ? 151 : 0));
        Scene.carry(hub, c, Check.DOWN, Check.PUBACK);
        Check.due(what + ": nothing is done", Scene.view(hub).equals(before), want);
    }

    /** 'more than 6 messages in queue and under way': all in the queue */
    private static void sixInTheQueue() {
        MessageHub hub = pair("a", 2, 1);
        hub.drop(1);
        Scene.handMany(hub, 0, "a", 5);
        refuses("the sixth in the queue", hub, "a", false);
        Check.due("six", hub.session(1), 1 + 8 * 6);
        refuses("a seventh in the queue", hub, "a", true);
    }

    /** .. some in the queue, some under way */
    private static void sixInQueueAndUnderWay() {
        for (int window = 1; window <= 3; window++) {
            MessageHub hub = pair("a", 2, window);
            Scene.handMany(hub, 0, "a", 5);
            refuses("the sixth, window " + window, hub, "a", false);
            Check.due("six", hub.session(1), 1 + 8 * (6 - window) + 64 * window);
            refuses("a seventh, window " + window, hub, "a", true);
            Scene.carry(hub, 1, Check.DOWN, Check.PUBLISH);
            refuses("a seventh still", hub, "a", true);
            Scene.carry(hub, 1, Check.UP, Check.PUBACK);
            refuses("room again", hub, "a", false);
        }
    }

    /** 'would have more than 6 .. by its copies': all copies for a session count */
    private static void copiesOfOneMessageCountTogether() {
        MessageHub hub = pair("a", 1, 1);
        Check.enter(hub, 1, "+", 2, false);
        Check.enter(hub, 1, "b", 1, false);
        Check.enter(hub, 1, "#", 0, false);
        hub.drop(1);
        Scene.handMany(hub, 0, "a", 2);
        Check.due("four", hub.session(1), 4 + 8 * 4);
        refuses("two more make six", hub, "a", false);
        Check.due("six", hub.session(1), 4 + 8 * 6);
        Check.join(hub, 1, 50, 1);
        Scene.carry(hub, 1, Check.DOWN, Check.PUBLISH);
        Scene.carry(hub, 1, Check.UP, Check.PUBACK);
        Check.due("five", hub.session(1), 4 + 8 * 4 + 64);
        refuses("two more would make seven", hub, "a", true);
        refuses("one more makes six", hub, "c", false);
    }

    /** 'the message is REFUSED, nothing is done', for no session, whichever is full */
    private static void oneFullSessionRefusesForAll() {
        for (int full = 0; full < 3; full++) {
            int sender = (full + 1) % 3;
            int other = (full + 2) % 3;
            MessageHub hub = new MessageHub();
            Check.join(hub, sender, 50, 3);
            Check.enterAndWatch(hub, full, "x", 1);
            Check.enter(hub, full, "a", 1, false);
            Check.enterAndWatch(hub, other, "a", 2);
            Check.enter(hub, other, "#", 0, false);
            Scene.handMany(hub, sender, "x", 6);
            refuses("session " + full + " is full", hub, sender, "a", true);
            Check.due("not retained", hub.retained(Check.text("a")), 0);
            refuses("another topic", hub, sender, "b", false);
        }
    }

    /** A copy that NOLOCAL spares needs no room; another's message does. */
    private static void noLocalNeedsNoRoom() {
        for (boolean noLocal : new boolean[] {false, true}) {
            MessageHub hub = new MessageHub();
            Check.join(hub, 0, 50, 3);
            Check.join(hub, 1, 50, 1);
            Check.enter(hub, 1, "a", 1, noLocal);
            Scene.handMany(hub, 0, "a", 6);
            hub.publish(1, Check.text("a"), 9, 1, true);
            Scene.carry(hub, 1, Check.UP, Check.PUBLISH);
            Check.due("its own", hub.packet(1, Check.DOWN, 1), Check.plain(Check.PUBACK, 1, noLocal ? 0 : 151));
            Check.due("retained unless refused", hub.retained(Check.text("a")), noLocal ? 9 : 0);
            refuses("another's", hub, "a", true);
        }
    }

    /** 'by its copies of quality above 0' */
    private static void qualityZeroNeedsNoRoomInTheSession() {
        MessageHub hub = pair("a", 1, 3);
        Check.enter(hub, 1, "b", 0, false);
        Scene.handMany(hub, 0, "a", 6);
        int sent = hub.line(1, Check.DOWN);
        refuses("a subscription of quality 0", hub, "b", false);
        Check.due("sent", hub.packet(1, Check.DOWN, sent), Check.publication(9, 0, 0));
        Scene.hand(hub, 0, "a", 8, 0, true);
        Check.due("a message of quality 0 is sent", hub.packet(1, Check.DOWN, sent + 1), Check.publication(8, 0, 0));
        Check.due("and retained", hub.retained(Check.text("a")), 8);
        Check.due("still six", hub.session(1), 2 + 8 * 3 + 64 * 3);
    }

    /** .. a session that has no copy at all would not have more than it has */
    private static void aFullSessionWithoutCopyRefusesNothing() {
        MessageHub hub = pair("a", 1, 3);
        Scene.handMany(hub, 0, "a", 6);
        refuses("another topic", hub, "b", false);
        Check.due("retained", hub.retained(Check.text("b")), 9);
    }

    /** A message of quality 0 has copies of quality 0 alone: it is accepted whatever is full. */
    private static void refusedQualityZeroCannotBe() {
        MessageHub hub = pair("#", 2, 1);
        hub.drop(1);
        Scene.handMany(hub, 0, "a", 6);
        Scene.hand(hub, 0, "a", 7, 0, true);
        Check.due("retained", hub.retained(Check.text("a")), 7);
        Check.due("the copy is lost, not queued", hub.session(1), 1 + 8 * 6);
    }

    /** 'its down line has fewer than 12 packets': the twelfth */
    private static void elevenPacketsTakeOneMore() {
        MessageHub hub = pair("a", 0, 1);
        Scene.fillDown(hub, 1, 11);
        Scene.hand(hub, 0, "a", 5, 0, false);
        Check.due("twelve", hub.line(1, Check.DOWN), 12);
        Check.due("the twelfth", hub.packet(1, Check.DOWN, 11), Check.publication(5, 0, 0));
    }

    /** '(else it is lost)' */
    private static void twelvePacketsLoseIt() {
        MessageHub hub = pair("a", 0, 1);
        Scene.fillDown(hub, 1, 12);
        Scene.hand(hub, 0, "a", 5, 2, false);
        Check.due("no thirteenth", hub.line(1, Check.DOWN), 12);
        Check.due("nor in the queue", hub.session(1), 1);
        Scene.carry(hub, 1, Check.DOWN, Check.PONG);
        Check.due("nor when there is room", hub.line(1, Check.DOWN), 11);
        Scene.hand(hub, 0, "a", 6, 2, false);
        Check.due("but the next", hub.packet(1, Check.DOWN, 11), Check.publication(6, 0, 0));
    }

    /** .. also beyond twelve, where messages of a queue are sent */
    private static void moreThanTwelveLoseIt() {
        MessageHub hub = pair("a", 1, 3);
        Check.enter(hub, 1, "b", 0, false);
        Scene.fillDown(hub, 1, 12);
        Scene.handMany(hub, 0, "a", 2);
        Check.due("fourteen", hub.line(1, Check.DOWN), 14);
        Scene.hand(hub, 0, "b", 5, 0, false);
        Check.due("no fifteenth of quality 0", hub.line(1, Check.DOWN), 14);
    }

    /** .. each copy by itself */
    private static void secondCopyIsLostAtTwelve() {
        MessageHub hub = pair("a", 0, 1);
        Check.enter(hub, 1, "+", 0, false);
        Check.enter(hub, 1, "#", 1, false);
        Scene.fillDown(hub, 1, 11);
        Scene.hand(hub, 0, "a", 5, 1, false);
        Check.due("one of quality 0, and the one of quality 1", hub.line(1, Check.DOWN), 13);
        Check.due("the twelfth", hub.packet(1, Check.DOWN, 11), Check.publication(5, 0, 0));
        Check.due("the thirteenth", hub.packet(1, Check.DOWN, 12), Check.publication(5, 1, 1));
    }

    /** The room of a line is asked for quality 0 alone. */
    private static void pumpingNeedsNoRoomInTheLine() {
        MessageHub hub = pair("a", 1, 3);
        Scene.fillDown(hub, 1, 12);
        Scene.hand(hub, 0, "a", 5, 1, false);
        Check.due("sent all the same", hub.packet(1, Check.DOWN, 12), Check.publication(5, 1, 1));
    }
}
