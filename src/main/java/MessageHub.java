import java.util.ArrayList;

/**
 * A broker and three clients that publish and subscribe over links that break.
 * The words used here (link, line, session, under way, pumping ..) are those of the document.
 */
public final class MessageHub {
    private static final int CLIENTS = 3;
    private static final int LINE_ROOM = 12;
    private static final int STORE_ROOM = 4;
    private static final int CLIENT_WINDOW = 2;
    private static final int SUBSCRIPTION_ROOM = 4;
    private static final int RETAINED_ROOM = 4;
    private static final int SESSION_ROOM = 6;
    private static final int INBOX_SHOWN = 100;
    private static final int HIGHEST_ID = 8;
    private static final int TEXT_LENGTH = 8;

    private static final int MOST_EXPIRY = 50;
    private static final int MOST_WINDOW = 3;
    private static final int MOST_KEEP = 20;
    private static final int MOST_QUALITY = 2;

    private static final int CLOSED = 0;
    private static final int OPENING = 1;
    private static final int CONNECTED = 2;
    private static final int LEAVING = 3;

    private static final int CONNECT = 1;
    private static final int CONNACK = 2;
    private static final int PUBLISH = 3;
    private static final int PUBACK = 4;
    private static final int PUBREC = 5;
    private static final int PUBREL = 6;
    private static final int PUBCOMP = 7;
    private static final int SUBSCRIBE = 8;
    private static final int SUBACK = 9;
    private static final int UNSUBSCRIBE = 10;
    private static final int UNSUBACK = 11;
    private static final int PING = 12;
    private static final int PONG = 13;
    private static final int DISCONNECT = 14;

    private static final int WAITING = 0;
    private static final int SENT = 1;
    private static final int RELEASED = 2;

    private static final int NO_ROOM = 151;
    private static final int NO_SUBSCRIPTION = 17;
    private static final int NO_COPY = -1;

    private static final int NO_FAILURE = 0;
    private static final int FAILURE_BEFORE = 1;
    private static final int FAILURE_AFTER = 2;

    private final Link[] links = new Link[CLIENTS];
    private final Client[] clients = new Client[CLIENTS];
    private final Broker broker;

    public MessageHub() {
        for (int c = 0; c < CLIENTS; c++) {
            links[c] = new Link();
            clients[c] = new Client(links[c]);
        }
        broker = new Broker(links);
    }

    public boolean will(int c, long topic, int value) {
        long text = Text.read(topic);
        if (!isClient(c) || (topic != 0 && !Text.isTopic(text))) {
            return false;
        }
        clients[c].setWill(text, value);
        return true;
    }

    public boolean connect(int c, boolean clean, int expiry, int window, int keep) {
        if (!isClient(c) || links[c].state != CLOSED) {
            return false;
        }
        if (!isWithin(expiry, 0, MOST_EXPIRY) || !isWithin(window, 1, MOST_WINDOW) || !isWithin(keep, 0, MOST_KEEP)) {
            return false;
        }
        clients[c].openLink(clean, expiry, window, keep);
        return true;
    }

    public boolean drop(int c) {
        if (!isClient(c) || links[c].state == CLOSED) {
            return false;
        }
        links[c].close();
        return true;
    }

    public boolean leave(int c) {
        if (!canSend(c)) {
            return false;
        }
        links[c].up.add(new Packet(DISCONNECT, 0, 0));
        links[c].state = LEAVING;
        return true;
    }

    public boolean ping(int c) {
        if (!canSend(c)) {
            return false;
        }
        links[c].up.add(new Packet(PING, 0, 0));
        return true;
    }

    public boolean subscribe(int c, long filter, int quality, boolean noLocal) {
        long text = Text.read(filter);
        if (!canSend(c) || !Text.isFilter(text) || !isWithin(quality, 0, MOST_QUALITY)) {
            return false;
        }
        links[c].up.add(Packet.ofFilter(SUBSCRIBE, text, quality, noLocal));
        return true;
    }

    public boolean unsubscribe(int c, long filter) {
        long text = Text.read(filter);
        if (!canSend(c) || !Text.isFilter(text)) {
            return false;
        }
        links[c].up.add(Packet.ofFilter(UNSUBSCRIBE, text, 0, false));
        return true;
    }

    public boolean publish(int c, long topic, int value, int quality, boolean retain) {
        long text = Text.read(topic);
        if (!isClient(c) || !Text.isTopic(text) || !isWithin(quality, 0, MOST_QUALITY)) {
            return false;
        }
        if (quality == 0 ? !canSend(c) : !canKeep(c)) {
            return false;
        }
        Message message = new Message(text, value, quality, retain);
        if (quality == 0) {
            links[c].up.add(Packet.ofMessage(message, 0, false));
        } else {
            clients[c].keep(message);
        }
        return true;
    }

    public int deliver(int c, boolean up) {
        if (!isClient(c) || links[c].row(up).isEmpty()) {
            return 0;
        }
        boolean deaf = !up && links[c].state == LEAVING;
        if (deaf || links[c].row(!up).size() >= LINE_ROOM) {
            return -1;
        }
        Packet packet = links[c].row(up).remove(0);
        if (!up) {
            clients[c].receive(packet);
            return packet.type;
        }
        int failure = broker.takeFailure();
        if (failure != FAILURE_BEFORE) {
            broker.receive(c, packet);
        }
        if (failure != NO_FAILURE) {
            broker.breakDown();
        }
        return packet.type;
    }

    public int tick() {
        return broker.passTick();
    }

    public void crash() {
        broker.breakDown();
    }

    public boolean fail(int when) {
        if (!isWithin(when, NO_FAILURE, FAILURE_AFTER)) {
            return false;
        }
        broker.failure = when;
        return true;
    }

    public int state(int c) {
        if (!isClient(c)) {
            return -1;
        }
        return links[c].state + (broker.connections[c].open ? 4 : 0) + (links[c].attached ? 8 : 0);
    }

    public int session(int c) {
        return isClient(c) ? broker.sessions[c].summary() : -1;
    }

    public int line(int c, boolean up) {
        return isClient(c) ? links[c].row(up).size() : 0;
    }

    public long packet(int c, boolean up, int k) {
        if (!isClient(c) || !isWithin(k, 0, links[c].row(up).size() - 1)) {
            return 0;
        }
        return links[c].row(up).get(k).number();
    }

    public int inbox(int c, int k) {
        return isClient(c) ? clients[c].received(k) : 0;
    }

    public int store(int c) {
        return isClient(c) ? clients[c].summary() : -1;
    }

    public int retained(long topic) {
        return broker.retainedValue(Text.read(topic));
    }

    public boolean matches(long filter, long topic) {
        long pattern = Text.read(filter);
        long text = Text.read(topic);
        return Text.isFilter(pattern) && Text.isTopic(text) && Text.covers(pattern, text);
    }

    private static boolean isWithin(int number, int least, int most) {
        return least <= number && number <= most;
    }

    private static boolean isClient(int c) {
        return isWithin(c, 0, CLIENTS - 1);
    }

    private boolean canSend(int c) {
        return isClient(c) && links[c].state == CONNECTED && links[c].up.size() < LINE_ROOM;
    }

    private boolean canKeep(int c) {
        return isClient(c) && clients[c].store.size() < STORE_ROOM && links[c].up.size() < LINE_ROOM;
    }

    /**
     * Topics and filters as longs whose highest byte is the first character and whose last bytes are zero:
     * so every text has one form alone, and two are the same when their longs are.
     */
    private static final class Text {
        /** The end of a filter, / and then #, that stands for no level too. */
        private static final long ANY_LEVELS = (long) '/' << 56 | (long) '#' << 48;

        /** The text that a caller's long stands for: its bytes in order, zeros left out wherever they stand. */
        static long read(long given) {
            long text = 0;
            int length = 0;
            for (int i = 0; i < TEXT_LENGTH; i++) {
                long letter = letterAt(given, i);
                if (letter != 0) {
                    text |= letter << (56 - 8 * length);
                    length++;
                }
            }
            return text;
        }

        static boolean isTopic(long text) {
            for (int i = 0; i < TEXT_LENGTH; i++) {
                int letter = letterAt(text, i);
                if (letter != 0 && !isPlain(letter)) {
                    return false;
                }
            }
            return text != 0;
        }

        static boolean isFilter(long text) {
            for (int i = 0; i < TEXT_LENGTH; i++) {
                int letter = letterAt(text, i);
                if (letter != 0 && !isPlain(letter) && !isJokerInPlace(text, i)) {
                    return false;
                }
            }
            return text != 0;
        }

        /** Whether a filter matches a topic. */
        static boolean covers(long filter, long topic) {
            long opening = filter >>> 56;
            if ((opening == '+' || opening == '#') && topic >>> 56 == '$') {
                return false;
            }
            long wanted = filter;
            long rest = topic;
            // every step takes a character of one or of both, so twice a text's length is enough
            for (int i = 0; i < 2 * TEXT_LENGTH && wanted != 0; i++) {
                long letter = wanted >>> 56;
                long met = rest >>> 56;
                if (letter == '#' || (rest == 0 && wanted == ANY_LEVELS)) {
                    return true;
                }
                if (letter == '+' && met != 0 && met != '/') {
                    rest <<= 8;
                } else if (letter == '+') {
                    wanted <<= 8;
                } else if (letter == met) {
                    wanted <<= 8;
                    rest <<= 8;
                } else {
                    return false;
                }
            }
            return rest == 0;
        }

        private static boolean isPlain(int letter) {
            return isWithin(letter, 'a', 'z') || isWithin(letter, '0', '9') || letter == '$' || letter == '/';
        }

        private static boolean isJokerInPlace(long text, int i) {
            int before = letterAt(text, i - 1);
            int behind = letterAt(text, i + 1);
            if (before != 0 && before != '/') {
                return false;
            }
            int letter = letterAt(text, i);
            return (letter == '+' && (behind == 0 || behind == '/')) || (letter == '#' && behind == 0);
        }

        /** The character at a place; 0 before the first and behind the last. */
        private static int letterAt(long text, int i) {
            return isWithin(i, 0, TEXT_LENGTH - 1) ? (int) (text >>> (56 - 8 * i)) & 255 : 0;
        }
    }

    private static final class Message {
        final long topic;
        final int value;
        final int quality;
        final boolean retain;

        Message(long topic, int value, int quality, boolean retain) {
            this.topic = topic;
            this.value = value;
            this.quality = quality;
            this.retain = retain;
        }

        Message copy(int lesserQuality, boolean marked) {
            return new Message(topic, value, lesserQuality, marked);
        }
    }

    /** What goes over a line; never changed once it is sent. */
    private static final class Packet {
        final int type;
        final int id;
        final int value;
        /** The topic of a PUBLISH, the filter of SUBSCRIBE and UNSUBSCRIBE, the will's topic (or 0) of CONNECT. */
        long text;
        int quality;
        boolean again;
        /** RETAIN of a PUBLISH, NOLOCAL of a SUBSCRIBE, CLEAN of a CONNECT. */
        boolean mark;
        int window;
        int keep;
        int willValue;

        Packet(int type, int id, int value) {
            this.type = type;
            this.id = id;
            this.value = value;
        }

        static Packet ofMessage(Message message, int id, boolean again) {
            Packet packet = new Packet(PUBLISH, id, message.value);
            packet.text = message.topic;
            packet.quality = message.quality;
            packet.again = again;
            packet.mark = message.retain;
            return packet;
        }

        static Packet ofFilter(int type, long filter, int value, boolean noLocal) {
            Packet packet = new Packet(type, 0, value);
            packet.text = filter;
            packet.mark = noLocal;
            return packet;
        }

        static Packet ofConnect(boolean clean, int expiry, int window, int keep, long willTopic, int willValue) {
            Packet packet = new Packet(CONNECT, 0, expiry);
            packet.mark = clean;
            packet.window = window;
            packet.keep = keep;
            packet.text = willTopic;
            packet.willValue = willValue;
            return packet;
        }

        long number() {
            return type + 16 * quality + (again ? 64 : 0) + (mark ? 128 : 0) + 256 * id + 65536L * value;
        }
    }

    /** A client's link with its two lines; a closed one stands for none. */
    private static final class Link {
        final ArrayList<Packet> up = new ArrayList<>();
        final ArrayList<Packet> down = new ArrayList<>();
        int state = CLOSED;
        /** Whether the broker's connection came over this very link. */
        boolean attached;

        ArrayList<Packet> row(boolean upwards) {
            return upwards ? up : down;
        }

        void close() {
            up.clear();
            down.clear();
            state = CLOSED;
            attached = false;
        }
    }

    /** A message of quality 1 or 2 on its way from one side to the other. */
    private static final class Parcel {
        final Message message;
        int stage = WAITING;
        int id;

        Parcel(Message message) {
            this.message = message;
        }

        void start(int newId) {
            stage = SENT;
            id = newId;
        }

        void waitAgain() {
            stage = WAITING;
            id = 0;
        }

        /** What is sent for it, being under way, when a session goes on over a new link. */
        Packet repeatedPacket() {
            return stage == SENT ? Packet.ofMessage(message, id, true) : new Packet(PUBREL, id, 0);
        }

        static int countUnderWay(ArrayList<Parcel> row) {
            int count = 0;
            for (int i = 0; i < row.size(); i++) {
                if (row.get(i).stage != WAITING) {
                    count++;
                }
            }
            return count;
        }

        static int leastFreeId(ArrayList<Parcel> row) {
            int used = 0;
            for (int i = 0; i < row.size(); i++) {
                used |= 1 << row.get(i).id;
            }
            for (int id = 1; id < HIGHEST_ID; id++) {
                if ((used & (1 << id)) == 0) {
                    return id;
                }
            }
            return HIGHEST_ID;
        }

        /** Takes the one with this ID away if it has come to this stage with this quality. */
        static void finish(ArrayList<Parcel> row, int id, int quality, int stage) {
            for (int i = row.size() - 1; i >= 0; i--) {
                Parcel parcel = row.get(i);
                if (parcel.id == id && parcel.message.quality == quality && parcel.stage == stage) {
                    row.remove(i);
                }
            }
        }

        /** Releases the one of quality 2 with this ID; false when there is none. */
        static boolean release(ArrayList<Parcel> row, int id) {
            for (int i = 0; i < row.size(); i++) {
                Parcel parcel = row.get(i);
                if (parcel.id == id && parcel.message.quality == 2 && parcel.stage != WAITING) {
                    parcel.stage = RELEASED;
                    return true;
                }
            }
            return false;
        }
    }

    /** The IDs of messages of quality 2 that a receiver has had and that are not yet released. */
    private static final class HeldIds {
        private int bits;

        boolean has(int id) {
            return (bits & (1 << id)) != 0;
        }

        void add(int id) {
            bits |= 1 << id;
        }

        void remove(int id) {
            bits &= ~(1 << id);
        }

        void clear() {
            bits = 0;
        }

        int count() {
            return Integer.bitCount(bits);
        }
    }

    private static final class Client {
        private final Link link;
        final ArrayList<Parcel> store = new ArrayList<>();
        private final HeldIds held = new HeldIds();
        private final int[] inbox = new int[INBOX_SHOWN];
        private int inboxCount;
        private long willTopic;
        private int willValue;

        Client(Link link) {
            this.link = link;
        }

        void setWill(long topic, int value) {
            willTopic = topic;
            willValue = value;
        }

        void openLink(boolean clean, int expiry, int window, int keep) {
            link.state = OPENING;
            link.up.add(Packet.ofConnect(clean, expiry, window, keep, willTopic, willValue));
        }

        void keep(Message message) {
            store.add(new Parcel(message));
            pump();
        }

        void receive(Packet packet) {
            switch (packet.type) {
                case CONNACK -> receiveConnack(packet);
                case PUBLISH -> receivePublish(packet);
                case PUBREL -> receivePubrel(packet);
                case PUBACK -> {
                    Parcel.finish(store, packet.id, 1, SENT);
                    pump();
                }
                case PUBREC -> {
                    receivePubrec(packet);
                    pump();
                }
                case PUBCOMP -> {
                    Parcel.finish(store, packet.id, 2, RELEASED);
                    pump();
                }
                default -> { }
            }
        }

        int received(int k) {
            if (k == -1) {
                return inboxCount;
            }
            return isWithin(k, 0, INBOX_SHOWN - 1) && k < inboxCount ? inbox[k] : 0;
        }

        int summary() {
            return store.size() + 8 * Parcel.countUnderWay(store) + 64 * held.count();
        }

        private void receiveConnack(Packet packet) {
            link.state = CONNECTED;
            if (packet.value == 0) {
                held.clear();
                startOver();
            } else {
                sendAgain();
            }
            pump();
        }

        private void startOver() {
            for (int i = store.size() - 1; i >= 0; i--) {
                if (store.get(i).stage == RELEASED) {
                    store.remove(i);
                } else {
                    store.get(i).waitAgain();
                }
            }
        }

        private void sendAgain() {
            for (int i = 0; i < store.size(); i++) {
                if (store.get(i).stage != WAITING) {
                    link.up.add(store.get(i).repeatedPacket());
                }
            }
        }

        private void receivePublish(Packet packet) {
            if (packet.quality < 2 || !held.has(packet.id)) {
                putIntoInbox(packet.value);
            }
            if (packet.quality == 1) {
                link.up.add(new Packet(PUBACK, packet.id, 0));
            } else if (packet.quality == 2) {
                held.add(packet.id);
                link.up.add(new Packet(PUBREC, packet.id, 0));
            }
        }

        private void receivePubrel(Packet packet) {
            held.remove(packet.id);
            link.up.add(new Packet(PUBCOMP, packet.id, 0));
        }

        private void receivePubrec(Packet packet) {
            if (packet.value == NO_ROOM) {
                Parcel.finish(store, packet.id, 2, SENT);
            } else if (Parcel.release(store, packet.id)) {
                link.up.add(new Packet(PUBREL, packet.id, 0));
            }
        }

        private void putIntoInbox(int value) {
            // both bounds: used for long enough, the count goes round and is below 0
            if (isWithin(inboxCount, 0, INBOX_SHOWN - 1)) {
                inbox[inboxCount] = value;
            }
            inboxCount++;
        }

        private void pump() {
            int underWay = Parcel.countUnderWay(store);
            for (int i = 0; i < store.size(); i++) {
                Parcel parcel = store.get(i);
                if (link.state == CONNECTED && underWay < CLIENT_WINDOW && parcel.stage == WAITING) {
                    parcel.start(Parcel.leastFreeId(store));
                    underWay++;
                    link.up.add(Packet.ofMessage(parcel.message, parcel.id, false));
                }
            }
        }
    }

    private static final class Subscription {
        final long filter;
        int quality;
        boolean noLocal;

        Subscription(long filter) {
            this.filter = filter;
        }

        /** The quality of the copy that is due for a message, own being one from the same client; or NO_COPY. */
        int copyQuality(Message message, boolean own) {
            if ((own && noLocal) || !Text.covers(filter, message.topic)) {
                return NO_COPY;
            }
            return Math.min(quality, message.quality);
        }
    }

    /** What the broker keeps of a client; one that does not exist is empty. */
    private static final class Session {
        final ArrayList<Subscription> subscriptions = new ArrayList<>();
        final ArrayList<Message> queue = new ArrayList<>();
        final ArrayList<Parcel> underWay = new ArrayList<>();
        final HeldIds held = new HeldIds();
        boolean exists;
        int expiry;
        private int count;

        void end() {
            subscriptions.clear();
            queue.clear();
            underWay.clear();
            held.clear();
            exists = false;
        }

        /** Its connection is gone: from here on it lives as long as its expiry. */
        void outlive() {
            count = expiry;
            if (expiry == 0) {
                end();
            }
        }

        /** Whether this tick, without a connection, has ended it. */
        boolean countDown() {
            if (!exists) {
                return false;
            }
            count--;
            if (count <= 0) {
                end();
            }
            return !exists;
        }

        int load() {
            return queue.size() + underWay.size();
        }

        /** Where the subscription with this filter stands, or -1. */
        int find(long filter) {
            for (int i = 0; i < subscriptions.size(); i++) {
                if (subscriptions.get(i).filter == filter) {
                    return i;
                }
            }
            return -1;
        }

        /** Takes a subscription in or sets it anew; false when there is no room. */
        boolean enter(long filter, int quality, boolean noLocal) {
            int i = find(filter);
            if (i < 0) {
                if (subscriptions.size() >= SUBSCRIPTION_ROOM) {
                    return false;
                }
                i = subscriptions.size();
                subscriptions.add(new Subscription(filter));
            }
            subscriptions.get(i).quality = quality;
            subscriptions.get(i).noLocal = noLocal;
            return true;
        }

        /** How many copies above quality 0 are due for a message. */
        int countKept(Message message, boolean own) {
            int kept = 0;
            for (int i = 0; i < subscriptions.size(); i++) {
                if (subscriptions.get(i).copyQuality(message, own) > 0) {
                    kept++;
                }
            }
            return kept;
        }

        int summary() {
            if (!exists) {
                return -1;
            }
            return subscriptions.size() + 8 * queue.size() + 64 * underWay.size() + 512 * held.count();
        }
    }

    /** The broker's side of a link, which may outlast the link; one that is not open stands for none. */
    private static final class Connection {
        boolean open;
        int window;
        int silence;
        private int keep;
        private long willTopic;
        private int willValue;

        void begin(Packet connect) {
            open = true;
            window = connect.window;
            silence = 0;
            keep = connect.keep;
            willTopic = connect.text;
            willValue = connect.willValue;
        }

        boolean hasWill() {
            return willTopic != 0;
        }

        Message willMessage() {
            return new Message(willTopic, willValue, 1, false);
        }

        /** Whether this tick has made it silent for longer than its keep-alive. */
        boolean growSilent() {
            if (keep == 0) {
                return false;
            }
            silence++;
            return silence > keep;
        }
    }

    private static final class Broker {
        private final Link[] links;
        final Connection[] connections = new Connection[CLIENTS];
        final Session[] sessions = new Session[CLIENTS];
        private final ArrayList<Message> retainedMessages = new ArrayList<>();
        int failure = NO_FAILURE;

        Broker(Link[] links) {
            this.links = links;
            for (int c = 0; c < CLIENTS; c++) {
                connections[c] = new Connection();
                sessions[c] = new Session();
            }
        }

        int takeFailure() {
            int told = failure;
            failure = NO_FAILURE;
            return told;
        }

        void breakDown() {
            for (int c = 0; c < CLIENTS; c++) {
                connections[c].open = false;
                links[c].close();
                sessions[c].outlive();
            }
        }

        int passTick() {
            int ended = 0;
            for (int c = 0; c < CLIENTS; c++) {
                boolean open = connections[c].open;
                if (open && connections[c].growSilent()) {
                    closeAbruptly(c);
                    ended++;
                } else if (!open && sessions[c].countDown()) {
                    ended++;
                }
            }
            return ended;
        }

        int retainedValue(long topic) {
            int i = findRetained(topic);
            return i < 0 ? 0 : retainedMessages.get(i).value;
        }

        void receive(int c, Packet packet) {
            connections[c].silence = 0;
            switch (packet.type) {
                case CONNECT -> {
                    if (connections[c].open) {
                        closeAbruptly(c);
                    }
                    receiveConnect(c, packet);
                }
                case PUBLISH -> receivePublish(c, packet);
                case PUBREL -> {
                    sessions[c].held.remove(packet.id);
                    send(c, new Packet(PUBCOMP, packet.id, 0));
                }
                case PUBACK -> {
                    Parcel.finish(sessions[c].underWay, packet.id, 1, SENT);
                    pump(c);
                }
                case PUBREC -> {
                    Parcel.release(sessions[c].underWay, packet.id);
                    send(c, new Packet(PUBREL, packet.id, 0));
                    pump(c);
                }
                case PUBCOMP -> {
                    Parcel.finish(sessions[c].underWay, packet.id, 2, RELEASED);
                    pump(c);
                }
                case SUBSCRIBE -> receiveSubscribe(c, packet);
                case UNSUBSCRIBE -> receiveUnsubscribe(c, packet);
                case PING -> send(c, new Packet(PONG, 0, 0));
                case DISCONNECT -> closeNormally(c);
                default -> { }
            }
        }

        private void send(int c, Packet packet) {
            if (links[c].attached) {
                links[c].down.add(packet);
            }
        }

        /** Whether a copy of quality 0 may be sent; without a link it is lost all the same. */
        private boolean hasLineRoom(int c) {
            return links[c].down.size() < LINE_ROOM;
        }

        private void receiveConnect(int c, Packet packet) {
            connections[c].begin(packet);
            links[c].attached = true;
            Session session = sessions[c];
            if (packet.mark) {
                session.end();
            }
            send(c, new Packet(CONNACK, 0, session.exists ? 1 : 0));
            session.exists = true;
            session.expiry = packet.value;
            for (int i = 0; i < session.underWay.size(); i++) {
                send(c, session.underWay.get(i).repeatedPacket());
            }
            pump(c);
        }

        private void receivePublish(int c, Packet packet) {
            HeldIds held = sessions[c].held;
            boolean known = packet.quality == 2 && held.has(packet.id);
            Message message = new Message(packet.text, packet.value, packet.quality, packet.mark);
            boolean accepted = known || accept(c, message);
            int reason = accepted ? 0 : NO_ROOM;
            if (packet.quality == 1) {
                send(c, new Packet(PUBACK, packet.id, reason));
            } else if (packet.quality == 2) {
                if (accepted) {
                    held.add(packet.id);
                }
                send(c, new Packet(PUBREC, packet.id, reason));
            }
        }

        private void receiveSubscribe(int c, Packet packet) {
            boolean entered = sessions[c].enter(packet.text, packet.value, packet.mark);
            send(c, new Packet(SUBACK, 0, entered ? packet.value : NO_ROOM));
            int due = entered ? retainedMessages.size() : 0;
            for (int i = 0; i < due; i++) {
                Message message = retainedMessages.get(i);
                if (Text.covers(packet.text, message.topic)) {
                    giveRetained(c, message.copy(Math.min(message.quality, packet.value), true));
                }
            }
            pump(c);
        }

        private void giveRetained(int c, Message copy) {
            if (copy.quality == 0 && hasLineRoom(c)) {
                send(c, Packet.ofMessage(copy, 0, false));
            } else if (copy.quality > 0 && sessions[c].load() < SESSION_ROOM) {
                sessions[c].queue.add(copy);
            }
        }

        private void receiveUnsubscribe(int c, Packet packet) {
            Session session = sessions[c];
            int i = session.find(packet.text);
            if (i >= 0) {
                session.subscriptions.remove(i);
            }
            send(c, new Packet(UNSUBACK, 0, i >= 0 ? 0 : NO_SUBSCRIPTION));
        }

        private void closeNormally(int c) {
            connections[c].open = false;
            // a link that is not attached is a newer one, whose CONNECT is still to come
            if (links[c].attached) {
                links[c].close();
            }
            sessions[c].outlive();
        }

        private void closeAbruptly(int c) {
            closeNormally(c);
            if (connections[c].hasWill()) {
                accept(c, connections[c].willMessage());
            }
        }

        /** Accepts a message from client c; false when it is refused. */
        private boolean accept(int c, Message message) {
            for (int s = 0; s < CLIENTS; s++) {
                if (sessions[s].load() + sessions[s].countKept(message, s == c) > SESSION_ROOM) {
                    return false;
                }
            }
            for (int s = 0; s < CLIENTS; s++) {
                spread(s, message, s == c);
            }
            if (message.retain) {
                retain(message);
            }
            for (int s = 0; s < CLIENTS; s++) {
                pump(s);
            }
            return true;
        }

        private void spread(int s, Message message, boolean own) {
            ArrayList<Subscription> subscriptions = sessions[s].subscriptions;
            for (int i = 0; i < subscriptions.size(); i++) {
                int quality = subscriptions.get(i).copyQuality(message, own);
                if (quality == 0 && hasLineRoom(s)) {
                    send(s, Packet.ofMessage(message.copy(0, false), 0, false));
                } else if (quality > 0) {
                    sessions[s].queue.add(message.copy(quality, false));
                }
            }
        }

        private int findRetained(long topic) {
            for (int i = 0; i < retainedMessages.size(); i++) {
                if (retainedMessages.get(i).topic == topic) {
                    return i;
                }
            }
            return -1;
        }

        private void retain(Message message) {
            int i = findRetained(message.topic);
            if (i >= 0 && message.value == 0) {
                retainedMessages.remove(i);
            } else if (i >= 0) {
                retainedMessages.set(i, message);
            } else if (message.value != 0 && retainedMessages.size() < RETAINED_ROOM) {
                retainedMessages.add(message);
            }
        }

        private void pump(int c) {
            Session session = sessions[c];
            int window = links[c].attached ? connections[c].window : 0;
            for (int n = session.underWay.size(); n < window && !session.queue.isEmpty(); n++) {
                Parcel parcel = new Parcel(session.queue.remove(0));
                parcel.start(Parcel.leastFreeId(session.underWay));
                session.underWay.add(parcel);
                send(c, Packet.ofMessage(parcel.message, parcel.id, false));
            }
        }
    }
}
