/**
 * Two objects that go the same way, one of them with a call between that must be refused. What a look does not show
 * (wills, silence, counts, a failure that was told ..) shows later: so both are also followed on several ways.
 */
final class Twins {
    /** A run of calls. */
    interface Way {
        void go(MessageHub hub);
    }

    /** A call, and whether it was taken. */
    interface Call {
        boolean on(MessageHub hub);
    }

    private static final int FATES = 6;

    private Twins() {
    }

    /** The call is refused behind these calls, and nothing is changed by it. */
    static void refused(String what, Way before, Call call) {
        for (int fate = 0; fate < FATES; fate++) {
            MessageHub plain = new MessageHub();
            MessageHub tried = new MessageHub();
            before.go(plain);
            before.go(tried);
            Check.due(what, call.on(tried), false);
            String want = Scene.view(plain);
            same(what + ": nothing changes", Scene.view(tried), want);
            same(what + ": nothing changes for later, way " + fate, fate(tried, fate), fate(plain, fate));
        }
    }

    /** The call is taken behind these calls. */
    static void taken(String what, Way before, Call call) {
        MessageHub hub = new MessageHub();
        before.go(hub);
        Check.due(what, call.on(hub), true);
    }

    private static void same(String what, String got, String want) {
        Check.due(what + "\n" + got + "\nis not\n" + want + "\n", got.equals(want), true);
    }

    private static String fate(MessageHub hub, int kind) {
        StringBuilder log = new StringBuilder();
        switch (kind) {
            case 0 -> deliverAll(hub, log);
            case 1 -> letTimePass(hub, log);
            case 2 -> comeAgain(hub, log);
            case 3 -> {
                hub.fail(0);
                comeAgain(hub, log);
            }
            case 4 -> {
                hub.crash();
                letTimePass(hub, log);
            }
            default -> {
                hub.crash();
                hub.fail(0);
                comeAgain(hub, log);
            }
        }
        return log.append(Scene.view(hub)).toString();
    }

    /** Shows a failure that was told, and what is in the lines. */
    private static void deliverAll(MessageHub hub, StringBuilder log) {
        for (int round = 0; round < 20; round++) {
            for (int c = 0; c < 3; c++) {
                log.append(hub.deliver(c, Check.UP)).append(' ').append(hub.deliver(c, Check.DOWN)).append(' ');
            }
        }
    }

    /** Shows keep-alives, silence, expiries and counts, and the wills of connections. */
    private static void letTimePass(MessageHub hub, StringBuilder log) {
        for (int n = 0; n < 75; n++) {
            log.append(hub.tick()).append(' ');
        }
    }

    /** Shows the wills of connections and of clients, subscriptions and stores; client 2 stays to hear of them. */
    private static void comeAgain(MessageHub hub, StringBuilder log) {
        for (int c = 2; c >= 0; c--) {
            hub.drop(c);
            log.append(hub.connect(c, false, 5, 3, c == 2 ? 0 : 1)).append(' ');
        }
        deliverAll(hub, log);
        for (int n = 0; n < 8; n++) {
            log.append(hub.tick()).append(' ');
        }
        deliverAll(hub, log);
    }
}
