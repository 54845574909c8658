/** Promises 1 to 6: a new object, will, connect, drop, leave, ping. */
public final class LinkPromisesTest {
    private static final int[] NOBODY = {-1, 3, Integer.MIN_VALUE, Integer.MAX_VALUE};

    public static void main(String[] args) {
        newObject();
        willIsRefused();
        willGoesWithLaterConnects();
        willIsTakenBack();
        connectSends();
        connectIsRefused();
        dropKeepsTheConnection();
        leaveSends();
        leaveAndPingAreRefused();
        pingIsAnswered();
        Check.finish();
    }

    private static void newObject() {
        MessageHub hub = new MessageHub();
        for (int c = 0; c < 3; c++) {
            Check.due("1: state", hub.state(c), 0);
            Check.due("1: session", hub.session(c), -1);
            Check.due("1: store", hub.store(c), 0);
            Check.inbox("1: inbox", hub, c);
            Check.line("1: up line", hub, c, Check.UP);
            Check.line("1: down line", hub, c, Check.DOWN);
            Check.due("1: deliver", hub.deliver(c, Check.UP), 0);
        }
        Check.due("1: retained", hub.retained(Check.text("a")), 0);
        Check.due("1: tick", hub.tick(), 0);
        Check.enterAndWatch(hub, 1, "#", 1);
        Check.due("1: connect", hub.connect(0, false, 0, 1, 1), true);
        hub.deliver(0, Check.UP);
        hub.tick();
        Check.due("1: closed by silence", hub.tick(), 1);
        Check.due("1: there is no will at first", hub.line(1, Check.DOWN), 0);
    }

    private static void willIsRefused() {
        MessageHub hub = new MessageHub();
        for (int c : NOBODY) {
            Check.due("2: will of nobody", hub.will(c, Check.text("w"), 5), false);
            Check.due("2: no will of nobody", hub.will(c, 0, 5), false);
        }
        Check.due("2: right will", hub.will(0, Check.text("w"), 5), true);
        for (String wrong : new String[] {"+", "#", "a/+", "W", "a b", "\u00e9", "a.b", "-"}) {
            Check.due("2: will with topic " + wrong, hub.will(0, Check.text(wrong), 6), false);
        }
        Check.enterAndWatch(hub, 1, "#", 1);
        loseBySilence(hub, 0);
        Check.line("2: refused wills change nothing", hub, 1, Check.DOWN, Check.publication(5, 1, 1));
    }

    private static void loseBySilence(MessageHub hub, int c) {
        Check.due("lose: connect", hub.connect(c, false, 9, 1, 1), true);
        Check.due("lose: deliver", hub.deliver(c, Check.UP), Check.CONNECT);
        hub.tick();
        Check.due("lose: tick", hub.tick(), 1);
    }

    private static void willGoesWithLaterConnects() {
        MessageHub hub = new MessageHub();
        Check.enterAndWatch(hub, 1, "w/#", 2);
        hub.will(0, Check.text("w/0"), -4);
        hub.connect(0, false, 9, 1, 1);
        Check.due("2: will behind a CONNECT", hub.will(0, Check.text("w/1"), 8), true);
        hub.deliver(0, Check.UP);
        hub.tick();
        hub.tick();
        Check.line("2: the will of the CONNECT", hub, 1, Check.DOWN, Check.publication(-4, 1, 1));
        loseBySilence(hub, 0);
        Check.due("2: the next CONNECT has the next will", hub.packet(1, Check.DOWN, 1), Check.publication(8, 1, 2));
        loseBySilence(hub, 0);
        Check.due("2: it stays for later CONNECTs", hub.packet(1, Check.DOWN, 2), Check.publication(8, 1, 3));
        Check.due("2: a will is not retained", hub.retained(Check.text("w/0")), 0);
    }

    private static void willIsTakenBack() {
        MessageHub hub = new MessageHub();
        Check.enterAndWatch(hub, 1, "#", 1);
        hub.will(0, Check.text("w"), 5);
        Check.due("2: no will any more", hub.will(0, 0, 9), true);
        loseBySilence(hub, 0);
        Check.due("2: nothing is published", hub.line(1, Check.DOWN), 0);
    }

    private static void connectSends() {
        MessageHub hub = new MessageHub();
        Check.due("3: connect", hub.connect(2, true, 50, 3, 20), true);
        Check.due("3: opening", hub.state(2), 1);
        Check.line("3: CONNECT", hub, 2, Check.UP, Check.plain(Check.CONNECT, 0, 50) + Check.MARK);
        Check.due("3: the broker knows nothing yet", hub.session(2), -1);
        Check.due("3: connect", hub.connect(1, false, 0, 1, 0), true);
        Check.line("3: CONNECT that is not clean", hub, 1, Check.UP, Check.CONNECT);
    }

    private static void connectIsRefused() {
        MessageHub hub = new MessageHub();
        for (int c : NOBODY) {
            Check.due("3: nobody", hub.connect(c, false, 1, 1, 1), false);
        }
        int[][] wrong = {{-1, 1, 0}, {51, 1, 0}, {1, 0, 0}, {1, 4, 0}, {1, 1, -1}, {1, 1, 21},
            {Integer.MAX_VALUE, 1, 0}, {1, Integer.MIN_VALUE, 0}, {1, 1, Integer.MAX_VALUE}};
        for (int[] w : wrong) {
            Check.due("3: out of range", hub.connect(0, false, w[0], w[1], w[2]), false);
        }
        Check.due("3: refused calls change nothing", hub.state(0), 0);
        Check.due("3: right", hub.connect(0, false, 1, 1, 1), true);
        Check.due("3: opening already", hub.connect(0, false, 1, 1, 1), false);
        hub.deliver(0, Check.UP);
        hub.deliver(0, Check.DOWN);
        Check.due("3: connected already", hub.connect(0, false, 1, 1, 1), false);
        hub.leave(0);
        Check.due("3: leaving still", hub.connect(0, false, 1, 1, 1), false);
        Check.line("3: nothing more is sent", hub, 0, Check.UP, Check.DISCONNECT);
    }

    private static void dropKeepsTheConnection() {
        MessageHub hub = new MessageHub();
        for (int c : NOBODY) {
            Check.due("4: nobody", hub.drop(c), false);
        }
        Check.due("4: no link", hub.drop(0), false);
        hub.connect(0, false, 0, 1, 0);
        Check.due("4: drop when opening", hub.drop(0), true);
        Check.due("4: closed", hub.state(0), 0);
        Check.due("4: the CONNECT is lost", hub.line(0, Check.UP), 0);
        Check.join(hub, 0, 0, 1);
        hub.ping(0);
        hub.ping(0);
        hub.deliver(0, Check.UP);
        Check.due("4: both lines have packets", hub.line(0, Check.UP) * 10 + hub.line(0, Check.DOWN), 11);
        Check.due("4: drop", hub.drop(0), true);
        Check.due("4: the connection stays, without a link", hub.state(0), 4);
        Check.due("4: both lines are empty", hub.line(0, Check.UP) + hub.line(0, Check.DOWN), 0);
        Check.due("4: the session stays, its expiry being 0 too", hub.session(0), 0);
        Check.due("4: drop again", hub.drop(0), false);
        hub.connect(0, false, 5, 1, 0);
        Check.due("4: a new link is not attached before its CONNECT comes", hub.state(0), 5);
        hub.deliver(0, Check.UP);
        Check.due("4: then it is", hub.state(0), 13);
    }

    private static void leaveSends() {
        MessageHub hub = new MessageHub();
        hub.will(0, Check.text("w"), 5);
        Check.enterAndWatch(hub, 1, "#", 1);
        Check.join(hub, 0, 3, 1);
        hub.ping(0);
        Check.due("5: leave", hub.leave(0), true);
        Check.due("5: leaving", hub.state(0), 15);
        Check.line("5: DISCONNECT comes behind", hub, 0, Check.UP, Check.PING, Check.DISCONNECT);
        Check.due("5: the PING", hub.deliver(0, Check.UP), Check.PING);
        Check.due("5: one that leaves hears nothing", hub.deliver(0, Check.DOWN), -1);
        Check.due("5: the DISCONNECT", hub.deliver(0, Check.UP), Check.DISCONNECT);
        Check.due("5: closed on both sides", hub.state(0), 0);
        Check.due("5: the line is gone with the link", hub.line(0, Check.DOWN), 0);
        Check.due("5: the session stays for its expiry", hub.session(0), 0);
        Check.due("5: no will", hub.line(1, Check.DOWN), 0);
        Check.due("5: ticks", hub.tick() + hub.tick(), 0);
        Check.due("5: the session ends by its count", hub.tick(), 1);
        Check.due("5: it is gone", hub.session(0), -1);
    }

    private static void leaveAndPingAreRefused() {
        MessageHub hub = new MessageHub();
        for (int c : NOBODY) {
            Check.due("5: nobody leaves", hub.leave(c), false);
            Check.due("6: nobody pings", hub.ping(c), false);
        }
        Check.due("5: closed", hub.leave(0), false);
        Check.due("6: closed", hub.ping(0), false);
        hub.connect(0, false, 1, 1, 0);
        Check.due("5: opening", hub.leave(0), false);
        Check.due("6: opening", hub.ping(0), false);
        hub.deliver(0, Check.UP);
        Check.due("6: opening still", hub.ping(0), false);
        hub.deliver(0, Check.DOWN);
        for (int n = 0; n < 12; n++) {
            Check.due("6: ping " + n, hub.ping(0), true);
        }
        Check.due("6: line full", hub.ping(0), false);
        Check.due("5: line full", hub.leave(0), false);
        Check.due("5: still connected", hub.state(0), 14);
        hub.deliver(0, Check.UP);
        Check.due("5: room again", hub.leave(0), true);
        hub.deliver(0, Check.UP);
        Check.due("5: leaving already", hub.leave(0), false);
        Check.due("6: leaving", hub.ping(0), false);
    }

    private static void pingIsAnswered() {
        MessageHub hub = new MessageHub();
        Check.due("6: connect", hub.connect(0, false, 1, 1, 1), true);
        hub.deliver(0, Check.UP);
        hub.deliver(0, Check.DOWN);
        for (int n = 0; n < 5; n++) {
            Check.due("6: the silence was broken", hub.tick(), 0);
            Check.due("6: ping", hub.ping(0), true);
            Check.line("6: PING", hub, 0, Check.UP, Check.PING);
            Check.due("6: deliver PING", hub.deliver(0, Check.UP), Check.PING);
            Check.line("6: PONG", hub, 0, Check.DOWN, Check.PONG);
            Check.due("6: deliver PONG", hub.deliver(0, Check.DOWN), Check.PONG);
        }
        Check.due("6: a PING that is not delivered", hub.ping(0), true);
        Check.due("6: first tick", hub.tick(), 0);
        Check.due("6: second tick", hub.tick(), 1);
    }
}
