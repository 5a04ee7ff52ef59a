import java.util.ArrayList;
import java.util.List;

/**
 * The document once more, written with texts and lists and no thought of cost, so that long runs of
 * calls can be told to both and compared. It takes right arguments alone: ModelTest looks ahead.
 */
final class Model {
    static final int REFUSED = -9;

    static final class Stream {
        int how;
        final List<String> put = new ArrayList<>();
        int pulled;
        int acked;
        final List<String> inbox = new ArrayList<>();
        boolean isAvailable;
        int priority;
        final Integer[] sees = new Integer[12];

        String see(int other) {
            return sees[other] == null ? "-" : String.valueOf(sees[other]);
        }
    }

    static final class Message {
        int sender;
        int taker = -1;
        boolean isBounced;
        boolean isLetGo;
        int anew;
    }

    static final class Room {
        final List<Integer> in = new ArrayList<>();
        final int[] roles = new int[12];
        final int[] ranks = new int[6];
        final List<Integer> history = new ArrayList<>();
        boolean isModerated;
    }

    final Stream[] streams = new Stream[12];
    final int[][] to = new int[6][6];
    final int[][] toAsk = new int[6][6];
    final int[][] from = new int[6][6];
    final int[][] fromAsk = new int[6][6];
    final boolean[][] blocks = new boolean[6][6];
    final List<Message> messages = new ArrayList<>();
    final List<List<Integer>> stored = new ArrayList<>();
    final Room[] rooms = {new Room(), new Room()};
    final List<List<String>> links = List.of(new ArrayList<>(), new ArrayList<>());
    final List<String> waiting = new ArrayList<>();
    int here;
    boolean isUp = true;
    boolean isProved = true;
    final boolean[] hasProved = {true, true};
    int linkNumber = 1;
    int asks;
    int refused;
    int knocks;

    Model() {
        for (int r = 0; r < 12; r++) streams[r] = new Stream();
        for (int u = 0; u < 6; u++) {
            stored.add(new ArrayList<>());
            java.util.Arrays.fill(toAsk[u], -1);
            java.util.Arrays.fill(fromAsk[u], -1);
        }
        rooms[0].ranks[0] = 2;
        rooms[1].ranks[3] = 2;
    }

    static String name(int resource) {
        return resource / 2 + "." + resource % 2;
    }

    static int resource(String name) {
        return 2 * (name.charAt(0) - '0') + name.charAt(2) - '0';
    }

    int refuse() {
        refused++;
        return REFUSED;
    }

    // -- how stanzas go

    void go(String stanza, String target) {
        char first = target.charAt(0);
        int server = first == 'g' ? target.charAt(1) - '0' : (first - '0') / 3;
        (server == here ? waiting : links.get(here)).add(stanza + " to " + target);
    }

    void comeAll() {
        while (!waiting.isEmpty()) come(waiting.remove(0));
    }

    void come(String whole) {
        int cut = whole.lastIndexOf(" to ");
        String stanza = whole.substring(0, cut);
        String target = whole.substring(cut + 4);
        if (target.startsWith("g")) comeToRoom(stanza, target.charAt(1) - '0');
        else if (target.length() == 3) comeToResource(stanza, resource(target));
        else comeToUser(stanza, target.charAt(0) - '0');
    }

    void putAll(int user, String stanza) {
        for (int r = 2 * user; r < 2 * user + 2; r++) if (streams[r].isAvailable) streams[r].put.add(stanza);
    }

    void comeToUser(String stanza, int u) {
        String[] w = stanza.split(" ");
        if (w[0].equals("m")) {
            messageToUser(Integer.parseInt(w[1]), u);
            return;
        }
        if (w[0].equals("p") || w[0].equals("probe")) {
            int r = resource(w[1]);
            if (w[0].equals("p")) {
                if (to[u][r / 2] == 2 && !blocks[u][r / 2]) putAll(u, stanza);
            } else if (from[u][r / 2] == 2 && !blocks[u][r / 2]) {
                for (int s = 2 * u; s < 2 * u + 2; s++) {
                    if (streams[s].isAvailable) go("p " + name(s) + " " + streams[s].priority, name(r));
                }
            }
            return;
        }
        int n = Integer.parseInt(w[1]);
        int v = Integer.parseInt(w[2]);
        if (w[0].equals("ask")) {
            if (blocks[u][v]) {
                go("no " + n + " " + u, "" + v);
            } else {
                from[u][v] = 1;
                fromAsk[u][v] = n;
                putAll(u, stanza);
            }
        } else if (w[0].equals("yes")) {
            if (to[u][v] == 1 && toAsk[u][v] == n) {
                to[u][v] = 2;
                putAll(u, stanza);
            }
        } else if (w[0].equals("no")) {
            if (to[u][v] > 0 && toAsk[u][v] == n) {
                to[u][v] = 0;
                toAsk[u][v] = -1;
                putAll(u, stanza);
            }
        } else if (w[0].equals("end")) {
            if (from[u][v] > 0 && fromAsk[u][v] == n) {
                from[u][v] = 0;
                fromAsk[u][v] = -1;
            }
        } else {
            throw new AssertionError(stanza);
        }
    }

    void comeToResource(String stanza, int r) {
        String[] w = stanza.split(" ");
        Stream stream = streams[r];
        if (w[0].equals("p")) {
            int v = resource(w[1]) / 2;
            if (to[r / 2][v] == 2 && !blocks[r / 2][v] && stream.isAvailable) stream.put.add(stanza);
        } else if (w[0].equals("m")) {
            int number = Integer.parseInt(w[1]);
            if (blocks[r / 2][messages.get(number - 1).sender / 2]) bounce(number, "unavailable");
            else if (stream.how != 0) stream.put.add(stanza);
            else messageToUser(number, r / 2);
        } else if (stream.how != 0) {
            stream.put.add(stanza);
        }
    }

    void bounce(int number, String why) {
        Message message = messages.get(number - 1);
        message.isBounced = true;
        go("b " + number + " " + why, name(message.sender));
    }

    String textOf(int number) {
        return "m " + number + " " + name(messages.get(number - 1).sender);
    }

    void messageToUser(int number, int v) {
        if (blocks[v][messages.get(number - 1).sender / 2]) {
            bounce(number, "unavailable");
            return;
        }
        int best = -1;
        for (int r = 2 * v; r < 2 * v + 2; r++) {
            boolean can = streams[r].isAvailable && streams[r].priority >= 0;
            if (can && (best < 0 || streams[r].priority > streams[best].priority)) best = r;
        }
        if (best >= 0) streams[best].put.add(textOf(number));
        else if (stored.get(v).size() < 5) stored.get(v).add(number);
        else bounce(number, "full");
    }

    void tellAll(Room room, String stanza) {
        for (int s : room.in) go(stanza, name(s));
    }

    void comeToRoom(String stanza, int g) {
        Room room = rooms[g];
        String[] w = stanza.split(" ");
        int r = resource(w[1]);
        boolean isOwner = room.ranks[r / 2] == 2;
        boolean isModerator = room.in.contains(r) && room.roles[r] == 2;
        String not = "not g" + g + " ";
        switch (w[0]) {
            case "join":
                if (room.ranks[r / 2] == 3) go(not + "forbidden", w[1]);
                else if (room.in.contains(r)) go(not + "in", w[1]);
                else if (room.in.size() == 5) go(not + "full", w[1]);
                else joinRoom(g, room, r);
                break;
            case "leave":
                out(g, room, r);
                break;
            case "say":
                if (!room.in.contains(r)) {
                    go(not + "in", w[1]);
                } else if (room.roles[r] == 0) {
                    go(not + "voice", w[1]);
                } else {
                    room.history.add(r);
                    tellAll(room, "said g" + g + " " + room.history.size() + " " + w[1]);
                }
                break;
            case "kick":
                int s = resource(w[2]);
                if (isModerator && room.in.contains(s) && room.roles[s] < 2) out(g, room, s);
                else go(not + "right", w[1]);
                break;
            case "role":
                int t = resource(w[2]);
                if (isModerator && room.in.contains(t) && room.roles[t] < 2) {
                    room.roles[t] = Integer.parseInt(w[3]);
                    tellAll(room, "in g" + g + " " + w[2] + " " + w[3]);
                } else {
                    go(not + "right", w[1]);
                }
                break;
            case "member":
                int v = Integer.parseInt(w[2]);
                if (isOwner && v != r / 2) {
                    room.ranks[v] = Integer.parseInt(w[3]);
                    if (room.ranks[v] == 3) {
                        out(g, room, 2 * v);
                        out(g, room, 2 * v + 1);
                    }
                } else {
                    go(not + "right", w[1]);
                }
                break;
            case "moderate":
                if (isOwner) room.isModerated = w[2].equals("1");
                else go(not + "right", w[1]);
                break;
            default:
                throw new AssertionError(stanza);
        }
    }

    void joinRoom(int g, Room room, int r) {
        for (int s : room.in) go("in g" + g + " " + name(s) + " " + room.roles[s], name(r));
        int rank = room.ranks[r / 2];
        room.roles[r] = rank == 2 ? 2 : room.isModerated && rank != 1 ? 0 : 1;
        room.in.add(r);
        tellAll(room, "in g" + g + " " + name(r) + " " + room.roles[r]);
        int size = room.history.size();
        for (int k = Math.max(1, size - 2); k <= size; k++) {
            go("said g" + g + " " + k + " " + name(room.history.get(k - 1)), name(r));
        }
    }

    void out(int g, Room room, int s) {
        if (!room.in.contains(s)) return;
        tellAll(room, "out g" + g + " " + name(s));
        room.in.remove(Integer.valueOf(s));
    }

    // -- acts

    void begin(int resource) {
        here = resource / 6;
    }

    int login(int r) {
        Stream stream = streams[r];
        stream.how = 1;
        stream.put.clear();
        stream.pulled = 0;
        stream.acked = 0;
        int count = 0;
        for (Stream each : streams) if (each.how != 0) count++;
        return count;
    }

    int pull(int r, int many) {
        Stream stream = streams[r];
        int count = 0;
        while (count < many && stream.pulled < stream.put.size()) {
            String stanza = stream.put.get(stream.pulled);
            stream.pulled++;
            count++;
            stream.inbox.add(stanza);
            look(stream.sees, stanza);
            String[] w = stanza.split(" ");
            if (w[0].equals("m")) messages.get(Integer.parseInt(w[1]) - 1).taker = r;
        }
        return count;
    }

    static void look(Integer[] sees, String stanza) {
        String[] w = stanza.split(" ");
        if (w[0].equals("p")) sees[resource(w[1])] = w[2].equals("off") ? null : Integer.valueOf(w[2]);
        if (w[0].equals("begin")) java.util.Arrays.fill(sees, null);
        if (w[0].equals("forget") || w[0].equals("no")) {
            int v = Integer.parseInt(w[w.length - 1]);
            sees[2 * v] = null;
            sees[2 * v + 1] = null;
        }
    }

    int ack(int r) {
        streams[r].acked = streams[r].pulled;
        return streams[r].acked;
    }

    int turn(int r, int how) {
        streams[r].how = how;
        return streams[r].put.size() - streams[r].pulled;
    }

    int end(int r, boolean isLetGo) {
        begin(r);
        Stream stream = streams[r];
        if (stream.isAvailable) offline(r);
        go("leave " + name(r), "g0");
        go("leave " + name(r), "g1");
        List<String> left = new ArrayList<>(stream.put.subList(isLetGo ? stream.acked : stream.pulled, stream.put.size()));
        stream.how = 0;
        stream.put.clear();
        stream.pulled = 0;
        stream.acked = 0;
        int count = 0;
        for (String stanza : left) {
            if (!stanza.startsWith("m ")) continue;
            int number = Integer.parseInt(stanza.split(" ")[1]);
            count++;
            if (isLetGo) {
                messages.get(number - 1).isLetGo = true;
                bounce(number, "gone");
            } else {
                messages.get(number - 1).anew++;
                messageToUser(number, r / 2);
            }
        }
        comeAll();
        return count;
    }

    void offline(int r) {
        streams[r].isAvailable = false;
        for (int v = 0; v < 6; v++) {
            if (from[r / 2][v] == 2 && !blocks[r / 2][v]) go("p " + name(r) + " off", "" + v);
        }
    }

    int available(int r, int priority) {
        begin(r);
        int u = r / 2;
        Stream stream = streams[r];
        boolean wasAvailable = stream.isAvailable;
        if (!wasAvailable) stream.put.add("begin");
        stream.isAvailable = true;
        stream.priority = priority;
        for (int v = 0; v < 6; v++) {
            if (from[u][v] == 2 && !blocks[u][v]) go("p " + name(r) + " " + priority, "" + v);
        }
        for (int v = 0; v < 6; v++) {
            if (!wasAvailable && to[u][v] == 2 && !blocks[u][v]) go("probe " + name(r), "" + v);
        }
        int count = 0;
        if (priority >= 0) {
            for (int number : stored.get(u)) {
                if (blocks[u][messages.get(number - 1).sender / 2]) {
                    bounce(number, "unavailable");
                } else {
                    stream.put.add(textOf(number));
                    count++;
                }
            }
            stored.get(u).clear();
        }
        comeAll();
        return count;
    }

    int unavailable(int r) {
        if (!streams[r].isAvailable) return refuse();
        begin(r);
        offline(r);
        comeAll();
        return streams[r].priority;
    }

    int subscribe(int r, int v) {
        int u = r / 2;
        if (blocks[u][v] || to[u][v] > 0) return refuse();
        begin(r);
        asks++;
        to[u][v] = 1;
        toAsk[u][v] = asks;
        int n = asks;
        go("ask " + n + " " + u, "" + v);
        comeAll();
        return n;
    }

    int unsubscribe(int r, int v) {
        int u = r / 2;
        if (to[u][v] == 0) return refuse();
        begin(r);
        int n = toAsk[u][v];
        to[u][v] = 0;
        toAsk[u][v] = -1;
        go("end " + n + " " + u, "" + v);
        putAll(u, "forget " + v);
        comeAll();
        return n;
    }

    int approve(int r, int v) {
        int u = r / 2;
        if (from[u][v] != 1) return refuse();
        begin(r);
        from[u][v] = 2;
        int n = fromAsk[u][v];
        go("yes " + n + " " + u, "" + v);
        for (int s = 2 * u; s < 2 * u + 2; s++) {
            if (streams[s].isAvailable && !blocks[u][v]) go("p " + name(s) + " " + streams[s].priority, "" + v);
        }
        comeAll();
        return n;
    }

    int deny(int r, int v) {
        int u = r / 2;
        if (from[u][v] == 0) return refuse();
        begin(r);
        int n = fromAsk[u][v];
        from[u][v] = 0;
        fromAsk[u][v] = -1;
        go("no " + n + " " + u, "" + v);
        comeAll();
        return n;
    }

    int block(int r, int v, boolean isOn) {
        int u = r / 2;
        if (blocks[u][v] == isOn) return refuse();
        begin(r);
        for (int s = 2 * u; s < 2 * u + 2; s++) {
            if (!streams[s].isAvailable) continue;
            if (from[u][v] == 2) go("p " + name(s) + " " + (isOn ? "off" : "" + streams[s].priority), "" + v);
            if (!isOn && to[u][v] == 2) go("probe " + name(s), "" + v);
        }
        blocks[u][v] = isOn;
        if (isOn) putAll(u, "forget " + v);
        comeAll();
        int count = 0;
        for (boolean each : blocks[u]) if (each) count++;
        return count;
    }

    int send(int r, int v, int which) {
        if (blocks[r / 2][v]) return refuse();
        begin(r);
        Message message = new Message();
        message.sender = r;
        messages.add(message);
        int number = messages.size();
        go(textOf(number), which < 0 ? "" + v : name(2 * v + which));
        comeAll();
        return number;
    }

    int inRoom(int r, int g, String stanza) {
        begin(r);
        go(stanza, "g" + g);
        comeAll();
        return links.get(r / 6).size();
    }

    boolean fail() {
        boolean was = isUp;
        isUp = false;
        isProved = false;
        hasProved[0] = false;
        hasProved[1] = false;
        return was;
    }

    int raise() {
        if (isUp) return refuse();
        isUp = true;
        linkNumber++;
        return linkNumber;
    }

    int key(int server) {
        return server == 0 ? (17 * linkNumber + 23) % 97 : (23 * linkNumber + 17) % 97;
    }

    boolean prove(int server, int key) {
        if (isUp && key == key(server)) hasProved[server] = true;
        isProved = hasProved[0] && hasProved[1];
        return isProved;
    }

    boolean carryOne(int server) {
        if (links.get(server).isEmpty()) return false;
        here = 1 - server;
        come(links.get(server).remove(0));
        comeAll();
        return true;
    }

    int carry(int server, int many) {
        if (!isUp || !isProved) return refuse();
        int count = 0;
        while (count < many && carryOne(server)) count++;
        return count;
    }

    int carryAll() {
        if (!isUp || !isProved) return refuse();
        int count = 0;
        while (!isStill()) {
            for (int server = 0; server < 2; server++) if (carryOne(server)) count++;
        }
        return count;
    }

    // -- what is asked

    int ofStream(int r, int what) {
        Stream stream = streams[r];
        switch (what) {
            case 0: return stream.how;
            case 1: return stream.put.size();
            case 2: return stream.pulled;
            case 3: return stream.acked;
            case 4: return stream.inbox.size();
            case 5: return stream.isAvailable ? 1 : 0;
            default: return stream.isAvailable ? stream.priority : -1;
        }
    }

    String inbox(int r, int k) {
        List<String> all = streams[r].inbox;
        return k < 0 || k >= all.size() ? "-" : all.get(all.size() - 1 - k);
    }

    String due(int r, int k) {
        Stream stream = streams[r];
        return k < 0 || k >= stream.put.size() - stream.pulled ? "-" : stream.put.get(stream.pulled + k);
    }

    int stored(int u, int k) {
        return k < 0 || k >= stored.get(u).size() ? -1 : stored.get(u).get(k);
    }

    int fate(int number, int what) {
        if (number < 1 || number > messages.size()) return -2;
        Message message = messages.get(number - 1);
        switch (what) {
            case 0: return message.sender;
            case 1: return message.taker;
            case 2: return message.isBounced ? 1 : 0;
            case 3: return places(number)[1] > 0 ? 1 : 0;
            default: return message.anew;
        }
    }

    String onLink(int server, int k) {
        return k < 0 || k >= links.get(server).size() ? "-" : links.get(server).get(k);
    }

    int ofRoom(int g, int what) {
        Room room = rooms[g];
        return what == 0 ? room.in.size() : what == 1 ? room.history.size() : room.isModerated ? 1 : 0;
    }

    int occupant(int g, int k) {
        return k < 0 || k >= rooms[g].in.size() ? -1 : rooms[g].in.get(k);
    }

    int roleOf(int g, int r) {
        return rooms[g].in.contains(r) ? rooms[g].roles[r] : -1;
    }

    int said(int g, int number) {
        return number < 1 || number > rooms[g].history.size() ? -1 : rooms[g].history.get(number - 1);
    }

    boolean isStill() {
        return links.get(0).isEmpty() && links.get(1).isEmpty();
    }

    int house(int what) {
        int received = 0;
        int bounced = 0;
        for (Message message : messages) {
            if (message.taker >= 0) received++;
            if (message.isBounced) bounced++;
        }
        int[] all = {messages.size(), received, bounced, links.get(0).size(), links.get(1).size(),
            isUp ? 1 : 0, isProved ? 1 : 0, asks, refused, knocks};
        return all[what];
    }

    /** In how many places: RECEIVED, STORED, BOUNCED, on a LINK, in a stream. */
    int[] places(int number) {
        Message message = messages.get(number - 1);
        int[] counts = new int[5];
        if (message.taker >= 0 && !message.isLetGo) counts[0]++;
        for (List<Integer> each : stored) for (int n : each) if (n == number) counts[1]++;
        if (message.isBounced) counts[2]++;
        for (List<String> link : links) for (String s : link) if (s.startsWith("m " + number + " ")) counts[3]++;
        for (Stream stream : streams) {
            for (int k = stream.pulled; k < stream.put.size(); k++) {
                if (stream.put.get(k).startsWith("m " + number + " ")) counts[4]++;
            }
        }
        return counts;
    }

    boolean isSound() {
        for (int u = 0; isStill() && u < 6; u++) {
            for (int v = 0; v < 6; v++) {
                if (to[u][v] != from[v][u] || toAsk[u][v] != fromAsk[v][u]) return false;
            }
        }
        for (int r = 0; isStill() && r < 12; r++) {
            if (!streams[r].isAvailable) continue;
            Integer[] sees = streams[r].sees.clone();
            for (int k = streams[r].pulled; k < streams[r].put.size(); k++) look(sees, streams[r].put.get(k));
            for (int s = 0; s < 12; s++) {
                int u = r / 2;
                int v = s / 2;
                boolean open = to[u][v] == 2 && !blocks[u][v] && !blocks[v][u] && streams[s].isAvailable;
                Integer due = open ? Integer.valueOf(streams[s].priority) : null;
                if (due == null ? sees[s] != null : !due.equals(sees[s])) return false;
            }
        }
        for (int number = 1; number <= messages.size(); number++) {
            int sum = 0;
            for (int count : places(number)) sum += count;
            if (sum != 1) return false;
        }
        for (Stream stream : streams) {
            List<String> seen = new ArrayList<>();
            for (String stanza : stream.inbox) {
                if (stanza.startsWith("m ") && seen.contains(stanza)) return false;
                seen.add(stanza);
            }
        }
        for (Room room : rooms) for (int r : room.in) if (room.ranks[r / 2] == 3) return false;
        return true;
    }

    long digest() {
        long d = 7676;
        for (int what = 0; what < 10; what++) d = d * 31 + house(what);
        for (int r = 0; r < 12; r++) {
            for (int what = 0; what < 7; what++) d = d * 31 + ofStream(r, what);
            for (int k = 0; !due(r, k).equals("-"); k++) d = sum(d, due(r, k));
            for (int s = 0; s < 12; s++) d = sum(d, streams[r].see(s));
        }
        for (int u = 0; u < 6; u++) {
            for (int v = 0; v < 6; v++) {
                d = d * 31 + to[u][v];
                d = d * 31 + from[u][v];
                d = d * 31 + toAsk[u][v];
                d = d * 31 + fromAsk[u][v];
                d = d * 31 + (blocks[u][v] ? 1 : 0);
            }
        }
        for (int u = 0; u < 6; u++) for (int k = 0; k < 5; k++) d = d * 31 + stored(u, k);
        for (int server = 0; server < 2; server++) {
            for (String stanza : links.get(server)) d = sum(d, stanza);
            d = d * 31 + key(server);
        }
        for (int g = 0; g < 2; g++) {
            for (int what = 0; what < 3; what++) d = d * 31 + ofRoom(g, what);
            for (int k = 0; k < 5; k++) d = d * 31 + occupant(g, k);
            for (int u = 0; u < 6; u++) d = d * 31 + rooms[g].ranks[u];
            for (int r : rooms[g].history) d = d * 31 + r;
        }
        return d * 31 + (isSound() ? 1 : 0);
    }

    static long sum(long d, String text) {
        for (char c : text.toCharArray()) d = d * 31 + c;
        return d;
    }
}
