import java.util.ArrayDeque;
import java.util.ArrayList;
import java.util.Deque;
import java.util.Iterator;
import java.util.LinkedHashMap;
import java.util.List;
import java.util.Map;
import java.util.TreeSet;

/**
 * A second reading of the document, written sentence by sentence with the Java library: texts as Strings,
 * links and connections as objects that come and go. It shares no code with MessageHub.
 */
final class HubModel {
    record Note(String topic, int value, int quality, boolean retain) {
    }

    record Pack(int type, int id, int value, Note note, boolean again, boolean mark, String filter, Offer offer) {
        long number() {
            int quality = note == null ? 0 : note.quality;
            boolean marked = mark || note != null && note.retain;
            return type + 16L * quality + (again ? 64 : 0) + (marked ? 128 : 0) + 256L * id + 65536L * value;
        }
    }

    record Offer(int window, int keep, Note will) {
    }

    static final class Wire {
        final Deque<Pack> up = new ArrayDeque<>();
        final Deque<Pack> down = new ArrayDeque<>();
        int phase = 1;
    }

    static final class Item {
        final Note note;
        int stage;
        int id;

        Item(Note note) {
            this.note = note;
        }
    }

    static final class Person {
        Wire wire;
        Note will;
        final List<Item> store = new ArrayList<>();
        final TreeSet<Integer> held = new TreeSet<>();
        final List<Integer> inbox = new ArrayList<>();
    }

    static final class Interest {
        int quality;
        boolean noLocal;
    }

    static final class Memory {
        final Map<String, Interest> interests = new LinkedHashMap<>();
        final List<Note> queue = new ArrayList<>();
        final List<Item> underWay = new ArrayList<>();
        final TreeSet<Integer> held = new TreeSet<>();
        int expiry;
        int count;
    }

    static final class Contact {
        Wire wire;
        Offer offer;
        int silence;
    }

    final Person[] people = {new Person(), new Person(), new Person()};
    final Contact[] contacts = new Contact[3];
    final Memory[] memories = new Memory[3];
    final Map<String, Note> retainedNotes = new LinkedHashMap<>();
    int failure = 0;

    static String read(long number) {
        StringBuilder text = new StringBuilder();
        for (int shift = 56; shift >= 0; shift -= 8) {
            char letter = (char) (number >> shift & 255);
            if (letter != 0) {
                text.append(letter);
            }
        }
        return text.toString();
    }

    static boolean isTopic(String text) {
        return text.matches("[a-z0-9$/]+");
    }

    static boolean isFilter(String text) {
        return !text.isEmpty() && text.matches("(([a-z0-9$]*|\\+)/)*([a-z0-9$]*|\\+|#)");
    }

    static boolean fits(String filter, String topic) {
        if ("+#".indexOf(filter.charAt(0)) >= 0 && topic.charAt(0) == '$') {
            return false;
        }
        String[] wanted = filter.split("/", -1);
        String[] levels = topic.split("/", -1);
        for (int i = 0; i < wanted.length; i++) {
            if (wanted[i].equals("#")) {
                return true;
            }
            if (i >= levels.length || !(wanted[i].equals("+") || wanted[i].equals(levels[i]))) {
                return false;
            }
        }
        return wanted.length == levels.length;
    }

    static boolean someone(int c) {
        return c == 0 || c == 1 || c == 2;
    }

    static Pack bare(int type, int id, int value) {
        return new Pack(type, id, value, null, false, false, null, null);
    }

    static Pack publishPack(Note note, int id, boolean again) {
        return new Pack(3, id, note.value, note, again, false, null, null);
    }

    static int freeId(List<Item> items) {
        TreeSet<Integer> used = new TreeSet<>();
        for (Item item : items) {
            if (item.stage > 0) {
                used.add(item.id);
            }
        }
        int id = 1;
        while (used.contains(id)) {
            id++;
        }
        return id;
    }

    static Item under(List<Item> items, int id) {
        for (Item item : items) {
            if (item.stage > 0 && item.id == id) {
                return item;
            }
        }
        return null;
    }

    // the calls

    boolean will(int c, long topic, int value) {
        if (!someone(c) || topic != 0 && !isTopic(read(topic))) {
            return false;
        }
        people[c].will = topic == 0 ? null : new Note(read(topic), value, 1, false);
        return true;
    }

    boolean connect(int c, boolean clean, int expiry, int window, int keep) {
        if (!someone(c) || people[c].wire != null || expiry < 0 || expiry > 50) {
            return false;
        }
        if (window < 1 || window > 3 || keep < 0 || keep > 20) {
            return false;
        }
        people[c].wire = new Wire();
        Offer offer = new Offer(window, keep, people[c].will);
        people[c].wire.up.add(new Pack(1, 0, expiry, null, false, clean, null, offer));
        return true;
    }

    boolean drop(int c) {
        if (!someone(c) || people[c].wire == null) {
            return false;
        }
        people[c].wire = null;
        return true;
    }

    boolean mayNotSend(int c) {
        return !someone(c) || people[c].wire == null || people[c].wire.phase != 2 || people[c].wire.up.size() >= 12;
    }

    boolean leave(int c) {
        if (mayNotSend(c)) {
            return false;
        }
        people[c].wire.up.add(bare(14, 0, 0));
        people[c].wire.phase = 3;
        return true;
    }

    boolean ping(int c) {
        if (mayNotSend(c)) {
            return false;
        }
        return people[c].wire.up.add(bare(12, 0, 0));
    }

    boolean subscribe(int c, long filter, int quality, boolean noLocal) {
        if (mayNotSend(c) || !isFilter(read(filter)) || quality < 0 || quality > 2) {
            return false;
        }
        return people[c].wire.up.add(new Pack(8, 0, quality, null, false, noLocal, read(filter), null));
    }

    boolean unsubscribe(int c, long filter) {
        if (mayNotSend(c) || !isFilter(read(filter))) {
            return false;
        }
        return people[c].wire.up.add(new Pack(10, 0, 0, null, false, false, read(filter), null));
    }

    boolean publish(int c, long topic, int value, int quality, boolean retain) {
        if (!someone(c) || !isTopic(read(topic)) || quality < 0 || quality > 2) {
            return false;
        }
        Person person = people[c];
        Note note = new Note(read(topic), value, quality, retain);
        if (quality == 0) {
            return !mayNotSend(c) && person.wire.up.add(publishPack(note, 0, false));
        }
        if (person.store.size() >= 4 || person.wire != null && person.wire.up.size() >= 12) {
            return false;
        }
        person.store.add(new Item(note));
        pumpClient(person);
        return true;
    }

    int deliver(int c, boolean up) {
        if (!someone(c) || people[c].wire == null) {
            return 0;
        }
        Wire wire = people[c].wire;
        Deque<Pack> line = up ? wire.up : wire.down;
        Deque<Pack> other = up ? wire.down : wire.up;
        if (line.isEmpty()) {
            return 0;
        }
        if (other.size() >= 12 || !up && wire.phase == 3) {
            return -1;
        }
        Pack pack = line.removeFirst();
        if (!up) {
            clientReceives(people[c], pack);
            return pack.type;
        }
        if (failure == 1) {
            failure = 0;
            crash();
        } else if (failure == 2) {
            failure = 0;
            brokerReceives(c, pack);
            crash();
        } else {
            brokerReceives(c, pack);
        }
        return pack.type;
    }

    int tick() {
        int answer = 0;
        for (int c = 0; c < 3; c++) {
            if (contacts[c] != null) {
                if (contacts[c].offer.keep > 0 && ++contacts[c].silence > contacts[c].offer.keep) {
                    closeAbruptly(c);
                    answer++;
                }
            } else if (memories[c] != null && --memories[c].count == 0) {
                memories[c] = null;
                answer++;
            }
        }
        return answer;
    }

    void crash() {
        for (int c = 0; c < 3; c++) {
            contacts[c] = null;
            people[c].wire = null;
            if (memories[c] != null) {
                memories[c].count = memories[c].expiry;
                if (memories[c].expiry == 0) {
                    memories[c] = null;
                }
            }
        }
    }

    boolean fail(int when) {
        if (when != 0 && when != 1 && when != 2) {
            return false;
        }
        failure = when;
        return true;
    }

    int state(int c) {
        if (!someone(c)) {
            return -1;
        }
        int answer = people[c].wire == null ? 0 : people[c].wire.phase;
        return answer + (contacts[c] != null ? 4 : 0) + (attached(c) ? 8 : 0);
    }

    int session(int c) {
        if (!someone(c) || memories[c] == null) {
            return -1;
        }
        Memory m = memories[c];
        return m.interests.size() + 8 * m.queue.size() + 64 * m.underWay.size() + 512 * m.held.size();
    }

    int line(int c, boolean up) {
        return !someone(c) || people[c].wire == null ? 0 : (up ? people[c].wire.up : people[c].wire.down).size();
    }

    long packet(int c, boolean up, int k) {
        if (k < 0 || k >= line(c, up)) {
            return 0;
        }
        return new ArrayList<>(up ? people[c].wire.up : people[c].wire.down).get(k).number();
    }

    int inbox(int c, int k) {
        if (!someone(c)) {
            return 0;
        }
        if (k == -1) {
            return people[c].inbox.size();
        }
        return k >= 0 && k <= 99 && k < people[c].inbox.size() ? people[c].inbox.get(k) : 0;
    }

    int store(int c) {
        if (!someone(c)) {
            return -1;
        }
        int under = 0;
        for (Item item : people[c].store) {
            under += item.stage > 0 ? 1 : 0;
        }
        return people[c].store.size() + 8 * under + 64 * people[c].held.size();
    }

    int retained(long topic) {
        Note note = retainedNotes.get(read(topic));
        return note == null ? 0 : note.value;
    }

    boolean matches(long filter, long topic) {
        return isFilter(read(filter)) && isTopic(read(topic)) && fits(read(filter), read(topic));
    }

    // a client

    void pumpClient(Person person) {
        while (person.wire != null && person.wire.phase == 2) {
            Item first = null;
            int under = 0;
            for (Item item : person.store) {
                under += item.stage > 0 ? 1 : 0;
                first = first == null && item.stage == 0 ? item : first;
            }
            if (under >= 2 || first == null) {
                return;
            }
            first.id = freeId(person.store);
            first.stage = 1;
            person.wire.up.add(publishPack(first.note, first.id, false));
        }
    }

    void clientReceives(Person person, Pack pack) {
        Deque<Pack> up = person.wire.up;
        Item item = under(person.store, pack.id);
        switch (pack.type) {
            case 2 -> clientReceivesConnack(person, pack.value);
            case 3 -> {
                int quality = pack.note.quality;
                if (quality < 2 || person.held.add(pack.id)) {
                    person.inbox.add(pack.value);
                }
                if (quality > 0) {
                    up.add(bare(quality == 1 ? 4 : 5, pack.id, 0));
                }
            }
            case 6 -> {
                person.held.remove(pack.id);
                up.add(bare(7, pack.id, 0));
            }
            case 4 -> {
                if (item != null && item.stage == 1 && item.note.quality == 1) {
                    person.store.remove(item);
                }
            }
            case 5 -> {
                boolean known = item != null && item.note.quality == 2;
                if (known && pack.value != 151) {
                    item.stage = 2;
                    up.add(bare(6, pack.id, 0));
                } else if (known && item.stage == 1) {
                    person.store.remove(item);
                }
            }
            case 7 -> {
                if (item != null && item.stage == 2) {
                    person.store.remove(item);
                }
            }
            default -> { }
        }
        pumpClient(person);
    }

    void clientReceivesConnack(Person person, int value) {
        person.wire.phase = 2;
        if (value == 0) {
            person.held.clear();
            for (Iterator<Item> items = person.store.iterator(); items.hasNext(); ) {
                Item item = items.next();
                if (item.stage == 2) {
                    items.remove();
                }
                item.stage = 0;
            }
            return;
        }
        for (Item item : person.store) {
            if (item.stage == 1) {
                person.wire.up.add(publishPack(item.note, item.id, true));
            } else if (item.stage == 2) {
                person.wire.up.add(bare(6, item.id, 0));
            }
        }
    }

    // the broker

    boolean attached(int c) {
        return contacts[c] != null && contacts[c].wire == people[c].wire && people[c].wire != null;
    }

    void send(int c, Pack pack) {
        if (attached(c)) {
            contacts[c].wire.down.add(pack);
        }
    }

    void pumpSession(int c) {
        Memory memory = memories[c];
        if (memory == null) {
            return;
        }
        while (attached(c) && memory.underWay.size() < contacts[c].offer.window && !memory.queue.isEmpty()) {
            Item item = new Item(memory.queue.remove(0));
            item.id = freeId(memory.underWay);
            item.stage = 1;
            memory.underWay.add(item);
            send(c, publishPack(item.note, item.id, false));
        }
    }

    record Copy(int s, Note note) {
    }

    boolean accept(int c, Note note) {
        List<Copy> copies = new ArrayList<>();
        for (int s = 0; s < 3; s++) {
            int load = memories[s] == null ? 0 : memories[s].queue.size() + memories[s].underWay.size();
            if (memories[s] != null) {
                for (Map.Entry<String, Interest> entry : memories[s].interests.entrySet()) {
                    if (fits(entry.getKey(), note.topic) && !(entry.getValue().noLocal && s == c)) {
                        int quality = Math.min(note.quality, entry.getValue().quality);
                        copies.add(new Copy(s, new Note(note.topic, note.value, quality, false)));
                        load += quality > 0 ? 1 : 0;
                    }
                }
            }
            if (load > 6) {
                return false;
            }
        }
        for (Copy copy : copies) {
            if (copy.note.quality == 0) {
                sendLightly(copy.s, copy.note);
            } else {
                memories[copy.s].queue.add(copy.note);
            }
        }
        if (note.retain) {
            retain(note);
        }
        for (int s = 0; s < 3; s++) {
            pumpSession(s);
        }
        return true;
    }

    void sendLightly(int c, Note note) {
        if (attached(c) && contacts[c].wire.down.size() < 12) {
            send(c, publishPack(note, 0, false));
        }
    }

    void retain(Note note) {
        if (note.value == 0) {
            retainedNotes.remove(note.topic);
        } else if (retainedNotes.containsKey(note.topic) || retainedNotes.size() < 4) {
            retainedNotes.put(note.topic, note);
        }
    }

    void closeNormally(int c) {
        if (attached(c)) {
            people[c].wire = null;
        }
        contacts[c] = null;
        memories[c].count = memories[c].expiry;
        if (memories[c].expiry == 0) {
            memories[c] = null;
        }
    }

    void closeAbruptly(int c) {
        Note will = contacts[c].offer.will;
        closeNormally(c);
        if (will != null) {
            accept(c, will);
        }
    }

    void brokerReceives(int c, Pack pack) {
        if (pack.type == 1) {
            brokerReceivesConnect(c, pack);
            return;
        }
        contacts[c].silence = 0;
        Memory memory = memories[c];
        Item item = under(memory.underWay, pack.id);
        switch (pack.type) {
            case 3 -> brokerReceivesPublish(c, pack);
            case 6 -> {
                memory.held.remove(pack.id);
                send(c, bare(7, pack.id, 0));
            }
            case 4 -> {
                if (item != null && item.stage == 1 && item.note.quality == 1) {
                    memory.underWay.remove(item);
                }
                pumpSession(c);
            }
            case 5 -> {
                if (item != null && item.note.quality == 2) {
                    item.stage = 2;
                }
                send(c, bare(6, pack.id, 0));
                pumpSession(c);
            }
            case 7 -> {
                if (item != null && item.stage == 2) {
                    memory.underWay.remove(item);
                }
                pumpSession(c);
            }
            case 8 -> brokerReceivesSubscribe(c, pack);
            case 10 -> send(c, bare(11, 0, memory.interests.remove(pack.filter) == null ? 17 : 0));
            case 12 -> send(c, bare(13, 0, 0));
            case 14 -> closeNormally(c);
            default -> { }
        }
    }

    void brokerReceivesConnect(int c, Pack pack) {
        if (contacts[c] != null) {
            closeAbruptly(c);
        }
        contacts[c] = new Contact();
        contacts[c].wire = people[c].wire;
        contacts[c].offer = pack.offer;
        if (pack.mark) {
            memories[c] = null;
        }
        boolean was = memories[c] != null;
        if (!was) {
            memories[c] = new Memory();
        }
        send(c, bare(2, 0, was ? 1 : 0));
        memories[c].expiry = pack.value;
        for (Item item : memories[c].underWay) {
            send(c, item.stage == 1 ? publishPack(item.note, item.id, true) : bare(6, item.id, 0));
        }
        pumpSession(c);
    }

    void brokerReceivesPublish(int c, Pack pack) {
        switch (pack.note.quality) {
            case 0 -> accept(c, pack.note);
            case 1 -> {
                boolean taken = accept(c, pack.note);
                send(c, bare(4, pack.id, taken ? 0 : 151));
            }
            default -> {
                int reason = 0;
                if (!memories[c].held.contains(pack.id)) {
                    if (accept(c, pack.note)) {
                        memories[c].held.add(pack.id);
                    } else {
                        reason = 151;
                    }
                }
                send(c, bare(5, pack.id, reason));
            }
        }
    }

    void brokerReceivesSubscribe(int c, Pack pack) {
        Memory memory = memories[c];
        if (!memory.interests.containsKey(pack.filter) && memory.interests.size() >= 4) {
            send(c, bare(9, 0, 151));
            pumpSession(c);
            return;
        }
        Interest interest = memory.interests.computeIfAbsent(pack.filter, key -> new Interest());
        interest.quality = pack.value;
        interest.noLocal = pack.mark;
        send(c, bare(9, 0, pack.value));
        for (Note note : retainedNotes.values()) {
            if (fits(pack.filter, note.topic)) {
                Note copy = new Note(note.topic, note.value, Math.min(note.quality, pack.value), true);
                if (copy.quality == 0) {
                    sendLightly(c, copy);
                } else if (memory.queue.size() + memory.underWay.size() < 6) {
                    memory.queue.add(copy);
                }
            }
        }
        pumpSession(c);
    }
}
