import java.util.ArrayList;
import java.util.List;
import java.util.Random;
import java.util.TreeSet;

/** Runs of calls by fixed seeds on MessageHub and on HubModel: every answer, and all that can be looked at, is the same. */
public final class RandomRunsTest {
    private static final int RUNS = 2000;
    private static final int CALLS = 512;
    private static final String[] TOPICS = {"a", "a/b", "b", "$a", "$a/b", "/", "a/", "a/b/c", "abcdefgh", "c"};
    private static final String[] WRONG_TOPICS = {"A", "a+", "+", "#", "a b", "", "\u00ff", "a/#"};
    private static final String[] FILTERS = {"#", "+", "a/#", "a/+", "+/b", "$a", "$a/#", "a", "b", "+/#", "c"};
    private static final String[] WRONG_FILTERS = {"a#", "#/a", "a+", "+a", "A", "", "a/#/b", "##"};
    private static final int[] VALUES = {0, 1, 2, 3, 7, -1, Integer.MAX_VALUE, Integer.MIN_VALUE};
    private static final int[] ODD_NUMBERS = {-1, Integer.MIN_VALUE, Integer.MAX_VALUE, 3, 4, 21, 51, 100};
    private static final String[] MUST_BE_SEEN = {
        "up 1", "up 1 clean", "up 3 q0", "up 3 q1", "up 3 q2", "up 3 q1 again", "up 3 q2 again", "up 4", "up 5", "up 6",
        "up 7", "up 8", "up 10", "up 12", "up 14", "down 2 value 0", "down 2 value 1", "down 3 q0", "down 3 q1",
        "down 3 q2", "down 3 q1 again", "down 3 q2 again", "down 3 q1 retain", "down 3 q0 retain", "down 4 value 0",
        "down 4 value 151", "down 5 value 0", "down 5 value 151", "down 6", "down 7", "down 9 value 151",
        "down 11 value 0", "down 11 value 17", "down 13", "deliver -1", "line over 12", "session of 6",
        "three under way", "failure 1", "failure 2", "tick 1", "tick 2", "refused at a full line"};

    private final Random random;
    private final MessageHub hub = new MessageHub();
    private final HubModel model = new HubModel();
    private final List<String> calls = new ArrayList<>();
    private final TreeSet<String> seen;
    private final int[] weights = new int[13];
    private final int liveliness;
    private int wrong = 0;

    private RandomRunsTest(long seed, TreeSet<String> seen) {
        this.seen = seen;
        random = new Random(seed);
        int[] base = {2, 8, 2, 1, 2, 6, 2, 12, 30, 3, 1, 1, 1};
        for (int i = 0; i < weights.length; i++) {
            int[] factors = {0, 1, 1, 3};
            weights[i] = base[i] * factors[random.nextInt(factors.length)];
        }
        weights[1] = Math.max(weights[1], 4);
        weights[8] = Math.max(weights[8], 10);
        liveliness = random.nextInt(4);
    }

    public static void main(String[] args) {
        TreeSet<String> seen = new TreeSet<>();
        for (int seed = 0; seed < RUNS; seed++) {
            RandomRunsTest run = new RandomRunsTest(seed, seen);
            run.go();
            if (run.wrong > 0) {
                System.out.println("seed " + seed + ", after the calls " + run.calls);
                Check.due("seed " + seed, run.wrong, 0);
                break;
            }
        }
        for (String sight : MUST_BE_SEEN) {
            Check.due("the runs come to '" + sight + "'", seen.contains(sight), true);
        }
        Check.finish();
    }

    private void go() {
        for (int n = 0; n < CALLS && wrong == 0; n++) {
            call();
            compare();
        }
    }

    private void same(String what, long got, long want) {
        if (got != want) {
            wrong++;
            System.out.println(what + " answered " + got + ", the model " + want);
        }
    }

    private void same(String call, boolean got, boolean want) {
        calls.add(call + " = " + got);
        same(call, got ? 1 : 0, want ? 1 : 0);
    }

    private int pick(int[] from) {
        return from[random.nextInt(from.length)];
    }

    private long pickText(String[] right, String[] wrongOnes) {
        if (random.nextInt(40) == 0) {
            return Check.text(wrongOnes[random.nextInt(wrongOnes.length)]);
        }
        int range = random.nextBoolean() ? 3 : right.length;
        return Check.text(right[random.nextInt(range)]);
    }

    private int number(int least, int most) {
        return random.nextInt(60) == 0 ? pick(ODD_NUMBERS) : least + random.nextInt(most - least + 1);
    }

    private void call() {
        int total = 0;
        for (int weight : weights) {
            total += weight;
        }
        int place = random.nextInt(total);
        int kind = 0;
        while (place >= weights[kind]) {
            place -= weights[kind];
            kind++;
        }
        int c = number(0, 2);
        if (kind <= 4) {
            callOnLink(kind, c);
        } else if (kind <= 7) {
            callOnTopic(kind, c);
        } else {
            callOnTime(kind, c);
        }
    }

    private void callOnLink(int kind, int c) {
        int value = pick(VALUES);
        switch (kind) {
            case 0 -> {
                long topic = random.nextInt(4) == 0 ? 0 : pickText(TOPICS, WRONG_TOPICS);
                same("will(" + c + "," + topic + "," + value + ")", hub.will(c, topic, value), model.will(c, topic, value));
            }
            case 1 -> {
                boolean clean = random.nextInt(6) == 0;
                int expiry = random.nextInt(5) == 0 ? 0 : number(1, 8 + 40 * random.nextInt(2));
                int window = number(1, 3);
                int keep = random.nextBoolean() ? 0 : number(1, 6);
                String call = "connect(" + c + "," + clean + "," + expiry + "," + window + "," + keep + ")";
                same(call, hub.connect(c, clean, expiry, window, keep), model.connect(c, clean, expiry, window, keep));
            }
            case 2 -> same("drop(" + c + ")", hub.drop(c), model.drop(c));
            case 3 -> same("leave(" + c + ")", hub.leave(c), model.leave(c));
            default -> {
                boolean full = hub.line(c, true) >= 12;
                boolean sent = hub.ping(c);
                same("ping(" + c + ")", sent, model.ping(c));
                see(full && !sent, "refused at a full line");
            }
        }
    }

    private void callOnTopic(int kind, int c) {
        int quality = number(0, 2);
        boolean mark = random.nextInt(3) == 0;
        if (kind == 5) {
            long filter = pickText(FILTERS, WRONG_FILTERS);
            String call = "subscribe(" + c + "," + filter + "," + quality + "," + mark + ")";
            same(call, hub.subscribe(c, filter, quality, mark), model.subscribe(c, filter, quality, mark));
        } else if (kind == 6) {
            long filter = pickText(FILTERS, WRONG_FILTERS);
            same("unsubscribe(" + c + "," + filter + ")", hub.unsubscribe(c, filter), model.unsubscribe(c, filter));
        } else {
            long topic = pickText(TOPICS, WRONG_TOPICS);
            int value = pick(VALUES);
            String call = "publish(" + c + "," + topic + "," + value + "," + quality + "," + mark + ")";
            same(call, hub.publish(c, topic, value, quality, mark), model.publish(c, topic, value, quality, mark));
        }
    }

    private void callOnTime(int kind, int c) {
        switch (kind) {
            case 8 -> {
                int times = 1 + random.nextInt(1 + 2 * liveliness);
                for (int n = 0; n < times; n++) {
                    deliver(number(0, 2), random.nextBoolean());
                }
            }
            case 9 -> {
                int got = hub.tick();
                calls.add("tick() = " + got);
                same("tick()", got, model.tick());
                see(got > 0, "tick " + got);
            }
            case 10 -> {
                calls.add("crash()");
                hub.crash();
                model.crash();
            }
            default -> {
                int when = number(0, 2);
                same("fail(" + when + ")", hub.fail(when), model.fail(when));
            }
        }
    }

    private void deliver(int c, boolean up) {
        int failure = model.failure;
        String call = "deliver(" + c + "," + up + ")";
        int got = hub.deliver(c, up);
        calls.add(call + " = " + got);
        same(call, got, model.deliver(c, up));
        see(up && got > 0 && failure > 0, "failure " + failure);
        see(got == -1, "deliver -1");
    }

    private void compare() {
        for (int c = -1; c <= 3; c++) {
            same("state(" + c + ")", hub.state(c), model.state(c));
            same("session(" + c + ")", hub.session(c), model.session(c));
            same("store(" + c + ")", hub.store(c), model.store(c));
            compareInbox(c);
            compareLine(c, true);
            compareLine(c, false);
            int session = Math.max(hub.session(c), 0);
            see((session >> 3 & 7) + (session >> 6 & 7) == 6, "session of 6");
            see((session >> 6 & 7) == 3, "three under way");
        }
        for (String topic : TOPICS) {
            long text = Check.text(topic);
            same("retained " + topic, hub.retained(text), model.retained(text));
        }
    }

    private void compareInbox(int c) {
        int count = hub.inbox(c, -1);
        same("inbox(" + c + ", -1)", count, model.inbox(c, -1));
        for (int k = Math.max(0, count - 3); k <= count + 1; k++) {
            same("inbox(" + c + "," + k + ")", hub.inbox(c, k), model.inbox(c, k));
        }
    }

    private void compareLine(int c, boolean up) {
        int length = hub.line(c, up);
        same("line(" + c + "," + up + ")", length, model.line(c, up));
        for (int k = -1; k <= length; k++) {
            long packet = hub.packet(c, up, k);
            same("packet(" + c + "," + up + "," + k + ")", packet, model.packet(c, up, k));
            if (k >= 0 && k < length) {
                seePacket(up, packet);
            }
        }
        see(length > 12, "line over 12");
    }

    private void see(boolean happened, String what) {
        if (happened) {
            seen.add(what);
        }
    }

    private void seePacket(boolean up, long packet) {
        int type = (int) (packet & 15);
        String name = (up ? "up " : "down ") + type;
        if (type == Check.PUBLISH) {
            String quality = name + " q" + (packet >> 4 & 3);
            String again = (packet & Check.AGAIN) != 0 ? " again" : "";
            seen.add(quality + again + ((packet & Check.MARK) != 0 && !up ? " retain" : ""));
        } else if (type == Check.CONNECT) {
            seen.add((packet & Check.MARK) != 0 ? name + " clean" : name);
        } else {
            seen.add(name);
            seen.add(name + " value " + (packet >> 16));
        }
    }
}
