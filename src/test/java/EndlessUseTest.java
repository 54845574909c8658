import java.util.Random;

/**
 * LANGUAGE.md, rule 7: 'No call may ever throw by itself .. or fail to end, for any arguments in any state'. What an
 * object answers after its 512th call is free, but it must answer; and what it keeps does not grow without a bound.
 */
public final class EndlessUseTest {
    private static final int RUNS = 6;
    private static final int CALLS = 60000;
    private static final int MOST_IN_A_LINE = 40;
    private static final int[] ODD_NUMBERS = {-1, 0, 3, 4, 50, 51, 99, 100, 1000, Integer.MIN_VALUE, Integer.MAX_VALUE};
    private static final String[] TEXTS = {"a", "b", "a/b", "$a", "#", "+", "a/+", "a/#", "+/+/+/+", "////////", "a#", "A"};

    private final Random random;
    private final MessageHub hub = new MessageHub();

    private EndlessUseTest(long seed) {
        random = new Random(seed);
    }

    public static void main(String[] args) {
        for (int seed = 0; seed < RUNS; seed++) {
            new EndlessUseTest(seed).goOn();
        }
        countGoesRound();
        Check.finish();
    }

    private void goOn() {
        for (int n = 0; n < CALLS; n++) {
            int kind = random.nextInt(40);
            if (kind < 11) {
                send(kind);
            } else if (kind < 18) {
                look(kind - 11);
            } else if (kind < 20) {
                hub.tick();
            } else {
                hub.deliver(number(3), random.nextBoolean());
            }
            for (int c = 0; c < 3; c++) {
                boolean bounded = hub.line(c, Check.UP) <= MOST_IN_A_LINE && hub.line(c, Check.DOWN) <= MOST_IN_A_LINE;
                Check.due("call " + n + ": the lines of " + c + " stay short", bounded, true);
            }
        }
    }

    private int number(int bound) {
        int place = random.nextInt(60);
        return place < ODD_NUMBERS.length ? ODD_NUMBERS[place] : random.nextInt(bound);
    }

    private long text() {
        int place = random.nextInt(2 * TEXTS.length);
        if (place < TEXTS.length) {
            return Check.text(TEXTS[place]);
        }
        return random.nextInt(3) == 0 ? random.nextLong() : Check.text(TEXTS[place % 3]);
    }

    private void send(int kind) {
        int c = number(3);
        boolean mark = random.nextInt(3) == 0;
        switch (kind) {
            case 0 -> hub.will(c, text(), random.nextInt());
            case 1, 2 -> hub.connect(c, mark, number(51), number(4), number(21));
            case 3 -> callRarely(c);
            case 4 -> hub.ping(c);
            case 5, 6 -> hub.subscribe(c, text(), number(3), mark);
            case 7 -> hub.unsubscribe(c, text());
            default -> hub.publish(c, text(), random.nextInt(), number(3), mark);
        }
    }

    private void callRarely(int c) {
        switch (random.nextInt(12)) {
            case 0 -> hub.drop(c);
            case 1 -> hub.leave(c);
            case 2 -> hub.crash();
            case 3 -> hub.fail(number(3));
            default -> hub.tick();
        }
    }

    private void look(int kind) {
        int c = number(3);
        switch (kind) {
            case 0 -> hub.state(c);
            case 1 -> hub.session(c);
            case 2 -> hub.store(c);
            case 3 -> hub.packet(c, random.nextBoolean(), number(20));
            case 4 -> hub.inbox(c, number(200));
            case 5 -> hub.retained(text());
            default -> hub.matches(text(), text());
        }
    }

    /** Of all that an object keeps only the count of an inbox has no bound: here it comes to the end of the ints. */
    private static void countGoesRound() {
        MessageHub hub = new MessageHub();
        Check.enterAndWatch(hub, 0, "a", 0);
        Stray.countInbox(hub, 0, Integer.MAX_VALUE - 1);
        for (int n = 0; n < 3; n++) {
            hub.publish(0, Check.text("a"), n, 0, false);
            Scene.carry(hub, 0, Check.UP, Check.PUBLISH);
            Scene.carry(hub, 0, Check.DOWN, Check.PUBLISH);
            hub.inbox(0, -1);
            hub.inbox(0, 0);
            hub.inbox(0, 99);
        }
    }
}
