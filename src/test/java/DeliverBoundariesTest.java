/** Boundary cases of promises 10 and 11: a test for each sentence. */
public final class DeliverBoundariesTest {
    public static void main(String[] args) {
        nobodyHasZero();
        emptyLineHasZero();
        emptyLineBeforeAFullOne();
        emptyLineOfOneThatLeaves();
        nobodyBeforeAll();
        elevenPacketsUpLetDownThrough();
        twelvePacketsUpStopDown();
        elevenPacketsDownLetUpThrough();
        twelvePacketsDownStopUp();
        moreThanTwelvePacketsDownStopUp();
        bothLinesFull();
        leavingStopsDown();
        leavingLetsUpThrough();
        anotherClientsLinesDoNotCount();
        answersTheType();
        noTickTooMany();
        oneTickTooMany();
        noKeepAliveIsNoSilence();
        closedIfAttached();
        closedThoughNotAttached();
        countsFallToZero();
        countsRestWithAConnection();
        closedAndEndedOnTheSameTick();
        endingByClosingIsNotCounted();
        allThreeCount();
        Check.finish();
    }

    private static MessageHub joined() {
        MessageHub hub = new MessageHub();
        Check.join(hub, 0, 9, 1);
        return hub;
    }

    /** The answer is due, and nothing is done: neither a silence is broken by it nor a failure used up. */
    private static void idle(String what, Twins.Way way, int c, boolean up, int want) {
        for (int failure = 0; failure <= 2; failure++) {
            int told = failure;
            Twins.refused(what + ", failure " + told, hub -> {
                way.go(hub);
                hub.tick();
                hub.fail(told);
            }, hub -> {
                int answer = hub.deliver(c, up);
                Check.due(what, answer, want);
                return answer != want;
            });
        }
    }

    private static void stopped(String what, Twins.Way way, int c, boolean up) {
        idle(what, way, c, up, -1);
    }

    private static void nothing(String what, Twins.Way way, int c, boolean up) {
        idle(what, way, c, up, 0);
    }

    /** '0 when there is no c' */
    private static void nobodyHasZero() {
        for (int c : Scene.NOBODY) {
            nothing("nobody up", hub -> Scene.bring(hub, 0, Scene.OPENING), c, Check.UP);
            nothing("nobody down", hub -> Scene.bring(hub, 0, Scene.OPENING), c, Check.DOWN);
        }
    }

    /** 'or the line is empty', with a link and without */
    private static void emptyLineHasZero() {
        for (int state : new int[] {Scene.CLOSED, Scene.CONNECTED}) {
            nothing("up in state " + state, hub -> Scene.bring(hub, 0, state), 0, Check.UP);
            nothing("down in state " + state, hub -> Scene.bring(hub, 0, state), 0, Check.DOWN);
        }
        nothing("down when opening", hub -> Scene.bring(hub, 0, Scene.OPENING), 0, Check.DOWN);
        nothing("the other way has a packet", hub -> {
            Scene.joinKeeping(hub, 0, 9, 5);
            Scene.fillDown(hub, 0, 1);
        }, 0, Check.UP);
    }

    /** 'otherwise -1': an empty line has 0, though the other line has 12 packets */
    private static void emptyLineBeforeAFullOne() {
        nothing("down, up line 12", hub -> {
            Scene.joinKeeping(hub, 0, 9, 5);
            Scene.fillUp(hub, 0, 12);
        }, 0, Check.DOWN);
        nothing("up, down line 12", hub -> {
            Scene.joinKeeping(hub, 0, 9, 5);
            Scene.fillDown(hub, 0, 12);
        }, 0, Check.UP);
    }

    /** .. and though c is LEAVING and the line is down */
    private static void emptyLineOfOneThatLeaves() {
        nothing("leaving", hub -> Scene.bring(hub, 0, Scene.LEAVING), 0, Check.DOWN);
        nothing("leaving, up line 12", hub -> {
            Scene.joinKeeping(hub, 0, 9, 5);
            Scene.fillUp(hub, 0, 11);
            hub.leave(0);
        }, 0, Check.DOWN);
    }

    /** .. and nobody has 0 whatever the lines of the others are */
    private static void nobodyBeforeAll() {
        MessageHub hub = joined();
        Scene.fillDown(hub, 0, 12);
        Scene.fillUp(hub, 0, 12);
        for (int c : Scene.NOBODY) {
            Check.due("nobody", hub.deliver(c, Check.UP), 0);
            Check.due("nobody", hub.deliver(c, Check.DOWN), 0);
        }
    }

    /** Client 0 has one packet down and so many up. */
    private static void oneDown(MessageHub hub, int up) {
        Scene.joinKeeping(hub, 0, 9, 5);
        Scene.fillDown(hub, 0, 1);
        Scene.fillUp(hub, 0, up);
    }

    /** '-1, doing nothing, when the other line has 12 packets or more': 11 are not */
    private static void elevenPacketsUpLetDownThrough() {
        MessageHub hub = new MessageHub();
        oneDown(hub, 11);
        Check.due("down", hub.deliver(0, Check.DOWN), Check.PONG);
        Check.due("received", hub.line(0, Check.DOWN), 0);
    }

    /** .. 12 are */
    private static void twelvePacketsUpStopDown() {
        stopped("down, up line 12", hub -> oneDown(hub, 12), 0, Check.DOWN);
    }

    private static void oneUp(MessageHub hub, int down) {
        Scene.joinKeeping(hub, 0, 9, 5);
        Scene.fillDown(hub, 0, down);
        Scene.fillUp(hub, 0, 1);
    }

    /** .. the other way: 11 are not */
    private static void elevenPacketsDownLetUpThrough() {
        MessageHub hub = new MessageHub();
        oneUp(hub, 11);
        Check.due("up", hub.deliver(0, Check.UP), Check.PING);
        Check.due("received", hub.line(0, Check.DOWN), 12);
    }

    /** .. 12 are */
    private static void twelvePacketsDownStopUp() {
        stopped("up, down line 12", hub -> oneUp(hub, 12), 0, Check.UP);
    }

    /** 'or more' */
    private static void moreThanTwelvePacketsDownStopUp() {
        stopped("up, down line 14", hub -> {
            Check.enterAndWatch(hub, 0, "a", 1);
            Scene.fillDown(hub, 0, 12);
            Scene.fillUp(hub, 0, 1);
            Check.join(hub, 1, 9, 1);
            Scene.handMany(hub, 1, "a", 2);
            Check.due("fourteen", hub.line(0, Check.DOWN), 14);
        }, 0, Check.UP);
    }

    /** Both lines full: neither way goes, until the link closes. */
    private static void bothLinesFull() {
        Twins.Way full = hub -> {
            Scene.joinKeeping(hub, 0, 9, 5);
            Scene.fillDown(hub, 0, 12);
            Scene.fillUp(hub, 0, 12);
        };
        stopped("up", full, 0, Check.UP);
        stopped("down", full, 0, Check.DOWN);
    }

    /** 'or c is LEAVING and the line is down' */
    private static void leavingStopsDown() {
        stopped("leaving", hub -> {
            Scene.joinKeeping(hub, 0, 9, 5);
            Scene.fillDown(hub, 0, 1);
            hub.leave(0);
        }, 0, Check.DOWN);
    }

    /** .. and not up */
    private static void leavingLetsUpThrough() {
        MessageHub hub = joined();
        Scene.fillDown(hub, 0, 10);
        hub.ping(0);
        hub.leave(0);
        Check.due("up", hub.deliver(0, Check.UP), Check.PING);
        Check.due("up", hub.deliver(0, Check.UP), Check.DISCONNECT);
        Check.due("closed", hub.state(0), 0);
    }

    /** 'the other line': of the same client */
    private static void anotherClientsLinesDoNotCount() {
        MessageHub hub = joined();
        Scene.fillDown(hub, 0, 12);
        Scene.fillUp(hub, 0, 12);
        Check.join(hub, 1, 9, 1);
        Scene.fillDown(hub, 1, 1);
        Scene.fillUp(hub, 1, 1);
        Check.due("up", hub.deliver(1, Check.UP), Check.PING);
        Check.due("down", hub.deliver(1, Check.DOWN), Check.PONG);
    }

    /** 'Answers its type', of each of the fourteen */
    private static void answersTheType() {
        MessageHub hub = joined();
        hub.subscribe(0, Check.text("a"), 2, false);
        hub.unsubscribe(0, Check.text("b"));
        hub.ping(0);
        int[] up = {Check.SUBSCRIBE, Check.UNSUBSCRIBE, Check.PING};
        int[] down = {Check.SUBACK, Check.UNSUBACK, Check.PONG};
        for (int n = 0; n < 3; n++) {
            Check.due("up", hub.deliver(0, Check.UP), up[n]);
            Check.due("down", hub.deliver(0, Check.DOWN), down[n]);
        }
        hub.publish(0, Check.text("a"), -1, 2, true);
        Check.due("PUBLISH up", hub.deliver(0, Check.UP), 3);
        Check.due("PUBLISH down", hub.deliver(0, Check.DOWN), 3);
        Check.due("PUBREC up", hub.deliver(0, Check.UP), 5);
        Check.due("PUBREC down", hub.deliver(0, Check.DOWN), 5);
        Check.due("PUBREL down", hub.deliver(0, Check.DOWN), 6);
        Check.due("PUBREL up", hub.deliver(0, Check.UP), 6);
        Check.due("PUBCOMP up", hub.deliver(0, Check.UP), 7);
        Check.due("PUBCOMP down", hub.deliver(0, Check.DOWN), 7);
        hub.publish(0, Check.text("a"), -1, 1, false);
        Check.due("PUBLISH up", hub.deliver(0, Check.UP), 3);
        Check.due("PUBLISH down", hub.deliver(0, Check.DOWN), 3);
        Check.due("PUBACK up", hub.deliver(0, Check.UP), 4);
        Check.due("PUBACK down", hub.deliver(0, Check.DOWN), 4);
        hub.leave(0);
        Check.due("DISCONNECT", hub.deliver(0, Check.UP), 14);
        hub.connect(0, false, 0, 1, 0);
        Check.due("CONNECT", hub.deliver(0, Check.UP), 1);
        Check.due("CONNACK", hub.deliver(0, Check.DOWN), 2);
    }

    /** 'and if that is more than the keep-alive it is closed abruptly': as much is not more */
    private static void noTickTooMany() {
        for (int keep : new int[] {1, 2, 20}) {
            MessageHub hub = new MessageHub();
            Scene.joinKeeping(hub, 0, 9, keep);
            for (int n = 0; n < keep; n++) {
                Check.due("keep-alive " + keep, hub.tick(), 0);
            }
            Check.due("connected", hub.state(0), 14);
        }
    }

    /** .. one more is */
    private static void oneTickTooMany() {
        for (int keep : new int[] {1, 2, 20}) {
            MessageHub hub = new MessageHub();
            Scene.joinKeeping(hub, 0, 9, keep);
            for (int n = 0; n < keep; n++) {
                hub.tick();
            }
            Check.due("keep-alive " + keep, hub.tick(), 1);
            Check.due("closed", hub.state(0), 0);
            Check.due("nothing left to close", hub.tick(), 0);
        }
    }

    /** 'a connection with a keep-alive' (0: none) */
    private static void noKeepAliveIsNoSilence() {
        MessageHub hub = new MessageHub();
        Check.join(hub, 0, 0, 1);
        Check.join(hub, 1, 0, 1);
        hub.drop(1);
        for (int n = 0; n < 100; n++) {
            Check.due("tick", hub.tick(), 0);
        }
        Check.due("attached", hub.state(0), 14);
        Check.due("not attached", hub.state(1), 4);
    }

    /** '(if attached, c is CLOSED)' */
    private static void closedIfAttached() {
        MessageHub hub = new MessageHub();
        hub.connect(0, false, 9, 1, 1);
        hub.deliver(0, Check.UP);
        Check.due("opening, attached", hub.state(0), 1 + 4 + 8);
        Check.due("ticks", hub.tick() * 10 + hub.tick(), 1);
        Check.due("closed", hub.state(0), 0);
        Check.due("the CONNACK is gone", hub.line(0, Check.DOWN), 0);
    }

    /** .. the connection goes too when it is not; another link stays */
    private static void closedThoughNotAttached() {
        MessageHub hub = new MessageHub();
        Scene.joinKeeping(hub, 0, 9, 1);
        hub.drop(0);
        Scene.joinKeeping(hub, 1, 9, 1);
        hub.drop(1);
        hub.connect(1, false, 9, 1, 0);
        Check.due("ticks", hub.tick() * 10 + hub.tick(), 2);
        Check.due("no link", hub.state(0), 0);
        Check.due("another link", hub.state(1), 1);
    }

    /** 'its count falls by 1, and at 0 the session ends' */
    private static void countsFallToZero() {
        for (int expiry : new int[] {1, 2, 50}) {
            MessageHub hub = new MessageHub();
            Check.join(hub, 0, expiry, 1);
            Scene.goAway(hub, 0);
            for (int n = 1; n < expiry; n++) {
                Check.due("expiry " + expiry, hub.tick(), 0);
            }
            Check.due("there", hub.session(0), 0);
            Check.due("the last tick of " + expiry, hub.tick(), 1);
            Check.due("ended", hub.session(0), -1);
            Check.due("nothing left to end", hub.tick(), 0);
        }
    }

    /** 'else without a connection': a session with one has no count, whether attached or not */
    private static void countsRestWithAConnection() {
        MessageHub hub = new MessageHub();
        Check.join(hub, 0, 1, 1);
        Check.join(hub, 1, 1, 1);
        hub.drop(1);
        Check.join(hub, 2, 2, 1);
        Scene.goAway(hub, 2);
        Check.due("tick", hub.tick(), 0);
        Check.join(hub, 2, 2, 1);
        for (int n = 0; n < 9; n++) {
            Check.due("tick", hub.tick(), 0);
        }
        for (int c = 0; c < 3; c++) {
            Check.due("there", hub.session(c), 0);
        }
    }

    /** 'else': what is closed by a tick has its count fall with the next */
    private static void closedAndEndedOnTheSameTick() {
        MessageHub hub = new MessageHub();
        Scene.joinKeeping(hub, 0, 1, 1);
        Check.due("silence 1", hub.tick(), 0);
        Check.due("closed", hub.tick(), 1);
        Check.due("there", hub.session(0), 0);
        Check.due("ended", hub.tick(), 1);
    }

    /** 'plus how many sessions ended by their count': not those that end with their connection */
    private static void endingByClosingIsNotCounted() {
        MessageHub hub = new MessageHub();
        Scene.joinKeeping(hub, 0, 0, 1);
        Check.due("silence 1", hub.tick(), 0);
        Check.due("one connection, no count", hub.tick(), 1);
        Check.due("ended", hub.session(0), -1);
    }

    /** 'Answers how many connections were closed, plus how many sessions ended by their count.' */
    private static void allThreeCount() {
        MessageHub hub = new MessageHub();
        for (int c = 0; c < 3; c++) {
            Scene.joinKeeping(hub, c, 1, 1);
        }
        Check.due("none", hub.tick(), 0);
        Check.due("three connections", hub.tick(), 3);
        Check.due("three sessions", hub.tick(), 3);
        Check.due("none", hub.tick(), 0);
        Scene.joinKeeping(hub, 0, 9, 1);
        Check.due("none", hub.tick(), 0);
        for (int c = 1; c < 3; c++) {
            Check.join(hub, c, 1, 1);
            Scene.goAway(hub, c);
        }
        Check.due("one connection and two sessions", hub.tick(), 3);
    }
}
