import java.util.Arrays;

/**
 * Two chat servers that are linked. The document ../shared/DOC.md says, as numbered promises, what
 * each call does; the words in capitals there (STANZA, RESOURCE, ..) are meant by the same words here.
 */
public final class Twinchat {
    private static final int NONE = -1;
    private static final int REFUSED = -9;

    private static final int SERVERS = 2;
    private static final int USERS = 6;
    private static final int RESOURCES = 12;
    private static final int ROOMS = 2;
    private static final int RESOURCES_OF_USER = 2;
    private static final int USERS_OF_SERVER = 3;

    private static final int OFF = 0;
    private static final int ON = 1;
    private static final int BROKEN = 2;

    private static final int NOTHING = 0;
    private static final int ASKED = 1;
    private static final int SUBSCRIBED = 2;

    private static final int LOWEST_PRIORITY = -5;
    private static final int HIGHEST_PRIORITY = 9;
    /** Stands where a PRIORITY would stand, and is none. */
    private static final int OFFLINE = 15;

    private static final int MEMBER = 1;
    private static final int OWNER = 2;
    private static final int OUTCAST = 3;

    private static final int VISITOR = 0;
    private static final int PARTICIPANT = 1;
    private static final int MODERATOR = 2;

    private static final int MOST_AT_ONCE = 99;
    private static final int MOST_STORED = 5;
    private static final int MOST_INSIDE = 5;
    /** An object is used for so many calls, so there are never more MESSAGES or sayings. */
    private static final int MOST_CALLS = 512;
    /** Far above what any run needs: only there so that each loop has an end of its own. */
    private static final int MOST_STEPS = 1000000;

    private static final String NO_TEXT = "-";

    private final Stream[] streams = new Stream[RESOURCES];
    /** Answers for a RESOURCE that does not exist, so that no index goes astray. */
    private final Stream nowhere = new Stream();
    private final Bonds following = new Bonds();
    private final Bonds followers = new Bonds();
    private final boolean[] blockings = new boolean[USERS * USERS];
    private final Post post = new Post();
    private final Wires wires = new Wires();
    private final Room firstRoom = new Room(0, wires);
    private final Room secondRoom = new Room(1, wires);
    private final Text text = new Text();
    /** Rows that isSound() writes in, made once because each call would make them anew. */
    private final int[] view = new int[RESOURCES];
    private final int[] places = new int[MOST_CALLS];
    private int asks;
    private int refusals;
    private int knocks;

    public Twinchat() {
        for (int resource = 0; resource < streams.length; resource++) {
            streams[resource] = new Stream();
        }
    }

    // ---- streams

    public int login(int resource) throws IndexOutOfBoundsException, IllegalStateException {
        needResource(resource);
        needState(resource, OFF);
        streamOf(resource).open();
        int count = 0;
        for (int other = 0; other < RESOURCES; other++) {
            count += streamOf(other).how == OFF ? 0 : 1;
        }
        return count;
    }

    public int pull(int resource, int many)
            throws IndexOutOfBoundsException, IllegalArgumentException, IllegalStateException {
        needResource(resource);
        need(many >= 1 && many <= MOST_AT_ONCE);
        needState(resource, ON);
        Stream stream = streamOf(resource);
        int count = 0;
        for (; count < many && stream.countBehind() > 0; count++) {
            long stanza = stream.take();
            if (Stanza.kindOf(stanza) == Stanza.MESSAGE) {
                post.receive(Stanza.numberOf(stanza), resource);
            }
        }
        return count;
    }

    public int ack(int resource) throws IndexOutOfBoundsException, IllegalStateException {
        needResource(resource);
        needState(resource, ON);
        Stream stream = streamOf(resource);
        stream.acked = stream.pulled;
        return stream.acked;
    }

    public int breaks(int resource) throws IndexOutOfBoundsException, IllegalStateException {
        needResource(resource);
        needState(resource, ON);
        streamOf(resource).how = BROKEN;
        return streamOf(resource).countBehind();
    }

    public int resume(int resource) throws IndexOutOfBoundsException, IllegalStateException {
        needResource(resource);
        needState(resource, BROKEN);
        streamOf(resource).how = ON;
        return streamOf(resource).countBehind();
    }

    public int letGo(int resource) throws IndexOutOfBoundsException, IllegalStateException {
        needResource(resource);
        needState(resource, BROKEN);
        goAway(resource);
        Stream stream = streamOf(resource);
        int end = stream.flow.size();
        int count = 0;
        for (int k = stream.acked; k < end; k++) {
            long stanza = stream.flow.at(k);
            if (Stanza.kindOf(stanza) == Stanza.MESSAGE) {
                post.markLetGo(Stanza.numberOf(stanza));
                bounce(stanza, Stanza.GONE);
                count++;
            }
        }
        stream.empty();
        comeAll();
        return count;
    }

    public int logout(int resource) throws IndexOutOfBoundsException, IllegalStateException {
        needResource(resource);
        needState(resource, ON);
        goAway(resource);
        Stream stream = streamOf(resource);
        int end = stream.flow.size();
        int count = 0;
        for (int k = stream.pulled; k < end; k++) {
            long stanza = stream.flow.at(k);
            if (Stanza.kindOf(stanza) == Stanza.MESSAGE) {
                post.countAnew(Stanza.numberOf(stanza));
                messageToUser(stanza, userOf(resource));
                count++;
            }
        }
        stream.empty();
        comeAll();
        return count;
    }

    // ---- presence, subscriptions, blocks

    public int available(int resource, int priority)
            throws IndexOutOfBoundsException, IllegalArgumentException, IllegalStateException {
        needResource(resource);
        need(priority >= LOWEST_PRIORITY && priority <= HIGHEST_PRIORITY);
        needState(resource, ON);
        beginAct(resource);
        Stream stream = streamOf(resource);
        boolean isNew = !stream.isAvailable();
        if (isNew) {
            stream.put(Stanza.plain(Stanza.BEGIN, 0));
        }
        stream.priority = priority;
        tellFollowers(resource, priority);
        if (isNew) {
            probeAll(resource);
        }
        int count = priority >= 0 ? putStored(resource) : 0;
        comeAll();
        return count;
    }

    public int unavailable(int resource) throws IndexOutOfBoundsException, IllegalStateException {
        needResource(resource);
        needState(resource, ON);
        Stream stream = streamOf(resource);
        if (!stream.isAvailable()) {
            return refuse();
        }
        int before = stream.priority;
        beginAct(resource);
        vanish(resource);
        comeAll();
        return before;
    }

    public int subscribe(int resource, int user)
            throws IndexOutOfBoundsException, IllegalArgumentException, IllegalStateException {
        needOther(resource, user);
        int self = userOf(resource);
        if (doesBlock(self, user) || following.of(self, user) != NOTHING) {
            return refuse();
        }
        asks++;
        int ask = asks;
        following.set(self, user, ASKED, ask);
        dispatchFrom(resource, Stanza.bond(Stanza.ASK, ask, self, user));
        comeAll();
        return ask;
    }

    public int unsubscribe(int resource, int user)
            throws IndexOutOfBoundsException, IllegalArgumentException, IllegalStateException {
        needOther(resource, user);
        int self = userOf(resource);
        if (following.of(self, user) == NOTHING) {
            return refuse();
        }
        int ask = following.askOf(self, user);
        following.set(self, user, NOTHING, NONE);
        putToUser(self, Stanza.plain(Stanza.FORGET, user));
        dispatchFrom(resource, Stanza.bond(Stanza.END, ask, self, user));
        comeAll();
        return ask;
    }

    public int approve(int resource, int user)
            throws IndexOutOfBoundsException, IllegalArgumentException, IllegalStateException {
        needOther(resource, user);
        int self = userOf(resource);
        if (followers.of(self, user) != ASKED) {
            return refuse();
        }
        int ask = followers.askOf(self, user);
        followers.set(self, user, SUBSCRIBED, ask);
        beginAct(resource);
        wires.dispatch(Stanza.bond(Stanza.YES, ask, self, user));
        if (!doesBlock(self, user)) {
            tellOfAll(self, user);
        }
        comeAll();
        return ask;
    }

    public int deny(int resource, int user)
            throws IndexOutOfBoundsException, IllegalArgumentException, IllegalStateException {
        needOther(resource, user);
        int self = userOf(resource);
        if (followers.of(self, user) == NOTHING) {
            return refuse();
        }
        int ask = followers.askOf(self, user);
        followers.set(self, user, NOTHING, NONE);
        dispatchFrom(resource, Stanza.bond(Stanza.NO, ask, self, user));
        comeAll();
        return ask;
    }

    public int block(int resource, int user, boolean isOn)
            throws IndexOutOfBoundsException, IllegalArgumentException, IllegalStateException {
        needOther(resource, user);
        int self = userOf(resource);
        if (doesBlock(self, user) == isOn) {
            return refuse();
        }
        beginAct(resource);
        if (isOn) {
            shut(self, user);
        } else {
            unshut(self, user);
        }
        comeAll();
        int count = 0;
        for (int other = 0; other < USERS; other++) {
            count += doesBlock(self, other) ? 1 : 0;
        }
        return count;
    }

    // ---- messages, rooms

    public int send(int resource, int user, int which)
            throws IndexOutOfBoundsException, IllegalArgumentException, IllegalStateException {
        needResource(resource);
        needUser(user);
        need(user != userOf(resource) && which >= NONE && which < RESOURCES_OF_USER);
        needState(resource, ON);
        if (doesBlock(userOf(resource), user) || post.isFull()) {
            return refuse();
        }
        int number = post.take(resource);
        int target = which == NONE ? user : Stanza.atResource(user * RESOURCES_OF_USER + which);
        dispatchFrom(resource, Stanza.message(number, resource, target));
        comeAll();
        return number;
    }

    public int join(int resource, int room) throws IndexOutOfBoundsException, IllegalStateException {
        needResource(resource);
        needRoom(room);
        needState(resource, ON);
        dispatchFrom(resource, Stanza.toRoom(Stanza.JOIN, room, resource, 0, 0));
        comeAll();
        return countOnLink(resource);
    }

    public int leave(int resource, int room) throws IndexOutOfBoundsException, IllegalStateException {
        needResource(resource);
        needRoom(room);
        needState(resource, ON);
        dispatchFrom(resource, Stanza.toRoom(Stanza.LEAVE, room, resource, 0, 0));
        comeAll();
        return countOnLink(resource);
    }

    public int say(int resource, int room) throws IndexOutOfBoundsException, IllegalStateException {
        needResource(resource);
        needRoom(room);
        needState(resource, ON);
        dispatchFrom(resource, Stanza.toRoom(Stanza.SAY, room, resource, 0, 0));
        comeAll();
        return countOnLink(resource);
    }

    public int kick(int resource, int room, int other)
            throws IndexOutOfBoundsException, IllegalStateException {
        needResource(resource);
        needRoom(room);
        needResource(other);
        needState(resource, ON);
        dispatchFrom(resource, Stanza.toRoom(Stanza.KICK, room, resource, other, 0));
        comeAll();
        return countOnLink(resource);
    }

    public int role(int resource, int room, int other, int role)
            throws IndexOutOfBoundsException, IllegalArgumentException, IllegalStateException {
        needResource(resource);
        needRoom(room);
        needResource(other);
        need(role == VISITOR || role == PARTICIPANT);
        needState(resource, ON);
        dispatchFrom(resource, Stanza.toRoom(Stanza.ROLE, room, resource, other, role));
        comeAll();
        return countOnLink(resource);
    }

    public int member(int resource, int room, int user, int affiliation)
            throws IndexOutOfBoundsException, IllegalArgumentException, IllegalStateException {
        needResource(resource);
        needRoom(room);
        needUser(user);
        need(affiliation == 0 || affiliation == MEMBER || affiliation == OUTCAST);
        needState(resource, ON);
        dispatchFrom(resource, Stanza.toRoom(Stanza.MEMBER, room, resource, user, affiliation));
        comeAll();
        return countOnLink(resource);
    }

    public int moderate(int resource, int room, boolean isOn)
            throws IndexOutOfBoundsException, IllegalStateException {
        needResource(resource);
        needRoom(room);
        needState(resource, ON);
        dispatchFrom(resource, Stanza.toRoom(Stanza.MODERATE, room, resource, 0, isOn ? 1 : 0));
        comeAll();
        return countOnLink(resource);
    }

    // ---- the link

    public boolean fail() {
        return wires.cut();
    }

    public int raise() {
        return wires.isUp() ? refuse() : wires.mend();
    }

    public int key(int server) throws IndexOutOfBoundsException {
        needServer(server);
        return wires.keyOf(server);
    }

    public boolean prove(int server, int key) throws IndexOutOfBoundsException {
        needServer(server);
        wires.show(server, key);
        return wires.isProved();
    }

    public int carry(int server, int many) throws IndexOutOfBoundsException, IllegalArgumentException {
        needServer(server);
        need(many >= 1 && many <= MOST_AT_ONCE);
        if (!wires.isProved()) {
            return refuse();
        }
        int count = 0;
        for (; count < many && wires.cross(server); count++) {
            comeAll();
        }
        return count;
    }

    public int carryAll() {
        if (!wires.isProved()) {
            return refuse();
        }
        int count = 0;
        for (int step = 0; step < MOST_STEPS && !isStill(); step++) {
            for (int server = 0; server < SERVERS; server++) {
                if (wires.cross(server)) {
                    comeAll();
                    count++;
                }
            }
        }
        return count;
    }

    // ---- what is asked

    public int ofStream(int resource, int what) throws IndexOutOfBoundsException, IllegalArgumentException {
        needResource(resource);
        Stream stream = streamOf(resource);
        switch (what) {
            case 0: return stream.how;
            case 1: return stream.flow.size();
            case 2: return stream.pulled;
            case 3: return stream.acked;
            case 4: return stream.pulledEver.size();
            case 5: return stream.isAvailable() ? 1 : 0;
            case 6: return stream.isAvailable() ? stream.priority : NONE;
            default: throw new IllegalArgumentException("no such question of a stream");
        }
    }

    public String inbox(int resource, int k) throws IndexOutOfBoundsException {
        needResource(resource);
        Row texts = streamOf(resource).pulledEver;
        if (k < 0 || k >= texts.size()) {
            return NO_TEXT;
        }
        text.clear();
        text.addStanza(texts.at(texts.size() - 1 - k));
        return text.copy();
    }

    public String due(int resource, int k) throws IndexOutOfBoundsException {
        needResource(resource);
        Stream stream = streamOf(resource);
        if (k < 0 || k >= stream.countBehind()) {
            return NO_TEXT;
        }
        text.clear();
        text.addStanza(stream.flow.at(stream.pulled + k));
        return text.copy();
    }

    public String sees(int resource, int other) throws IndexOutOfBoundsException {
        needResource(resource);
        needResource(other);
        int priority = streamOf(resource).seenOf(other);
        if (priority == OFFLINE) {
            return NO_TEXT;
        }
        text.clear();
        text.addNumber(priority);
        return text.copy();
    }

    public int to(int user, int other) throws IndexOutOfBoundsException {
        needUser(user);
        needUser(other);
        return following.of(user, other);
    }

    public int from(int user, int other) throws IndexOutOfBoundsException {
        needUser(user);
        needUser(other);
        return followers.of(user, other);
    }

    public int asked(int user, int other, boolean isTo) throws IndexOutOfBoundsException {
        needUser(user);
        needUser(other);
        return isTo ? following.askOf(user, other) : followers.askOf(user, other);
    }

    public boolean blocks(int user, int other) throws IndexOutOfBoundsException {
        needUser(user);
        needUser(other);
        return doesBlock(user, other);
    }

    public int stored(int user, int k) throws IndexOutOfBoundsException {
        needUser(user);
        return post.keptAt(user, k);
    }

    public int fate(int message, int what) throws IllegalArgumentException {
        need(what >= 0 && what <= 4);
        if (!post.has(message)) {
            return -2;
        }
        switch (what) {
            case 0: return post.senderOf(message);
            case 1: return post.takerOf(message);
            case 2: return post.isBounced(message) ? 1 : 0;
            case 3: return post.isKept(message) ? 1 : 0;
            default: return post.anewOf(message);
        }
    }

    public String onLink(int server, int k) throws IndexOutOfBoundsException {
        needServer(server);
        Row link = wires.linkFrom(server);
        if (k < 0 || k >= link.size()) {
            return NO_TEXT;
        }
        text.clear();
        text.addStanza(link.at(k));
        text.addTarget(link.at(k));
        return text.copy();
    }

    public int ofRoom(int room, int what) throws IndexOutOfBoundsException, IllegalArgumentException {
        needRoom(room);
        switch (what) {
            case 0: return roomOf(room).count;
            case 1: return roomOf(room).sayings;
            case 2: return roomOf(room).isModerated ? 1 : 0;
            default: throw new IllegalArgumentException("no such question of a room");
        }
    }

    public int occupant(int room, int k) throws IndexOutOfBoundsException {
        needRoom(room);
        return roomOf(room).insideAt(k);
    }

    public int roleOf(int room, int resource) throws IndexOutOfBoundsException {
        needRoom(room);
        needResource(resource);
        return roomOf(room).roleInside(resource);
    }

    public int affiliation(int room, int user) throws IndexOutOfBoundsException {
        needRoom(room);
        needUser(user);
        return roomOf(room).rankOf(user);
    }

    public int said(int room, int number) throws IndexOutOfBoundsException {
        needRoom(room);
        return roomOf(room).speakerOf(number);
    }

    // ---- the house

    public boolean isStill() {
        return wires.linkFrom(0).size() == 0 && wires.linkFrom(1).size() == 0;
    }

    public int house(int what) throws IllegalArgumentException {
        switch (what) {
            case 0: return post.sent;
            case 1: return post.received;
            case 2: return post.bounced;
            case 3: return wires.linkFrom(0).size();
            case 4: return wires.linkFrom(1).size();
            case 5: return wires.isUp() ? 1 : 0;
            case 6: return wires.isProved() ? 1 : 0;
            case 7: return asks;
            case 8: return refusals;
            case 9: return knocks;
            default: throw new IllegalArgumentException("no such question of the house");
        }
    }

    public int knock() {
        knocks++;
        return knocks;
    }

    public boolean isSound() {
        if (isStill() && !(doBondsAgree() && doViewsAgree())) {
            return false;
        }
        countPlaces();
        for (int message = 1; message <= post.sent; message++) {
            if (placesOf(message) != 1) {
                return false;
            }
        }
        return !post.isTakenTwice && !firstRoom.hasOutcast() && !secondRoom.hasOutcast();
    }

    public long digest() {
        long sum = 7676;
        for (int what = 0; what <= 9; what++) {
            sum = summed(sum, house(what));
        }
        for (int resource = 0; resource < RESOURCES; resource++) {
            sum = sumOfStream(sum, resource);
        }
        sum = sumOfUsers(sum);
        for (int server = 0; server < SERVERS; server++) {
            sum = sumOfLink(sum, server);
        }
        for (int room = 0; room < ROOMS; room++) {
            sum = sumOfRoom(sum, room);
        }
        return summed(sum, isSound() ? 1 : 0);
    }

    // ---- what is looked at ahead of an act

    private static void needResource(int resource) {
        if (resource < 0 || resource >= RESOURCES) {
            throw new IndexOutOfBoundsException("no such resource");
        }
    }

    private static void needUser(int user) {
        if (user < 0 || user >= USERS) {
            throw new IndexOutOfBoundsException("no such user");
        }
    }

    private static void needRoom(int room) {
        if (room < 0 || room >= ROOMS) {
            throw new IndexOutOfBoundsException("no such room");
        }
    }

    private static void needServer(int server) {
        if (server < 0 || server >= SERVERS) {
            throw new IndexOutOfBoundsException("no such server");
        }
    }

    private static void need(boolean isRight) {
        if (!isRight) {
            throw new IllegalArgumentException("an argument is out of its range");
        }
    }

    private void needState(int resource, int how) {
        if (streamOf(resource).how != how) {
            throw new IllegalStateException("the stream is not as it must be");
        }
    }

    private void needOther(int resource, int user) {
        needResource(resource);
        needUser(user);
        need(user != userOf(resource));
        needState(resource, ON);
    }

    private int refuse() {
        refusals++;
        return REFUSED;
    }

    // ---- who is where

    private static int userOf(int resource) {
        return resource / RESOURCES_OF_USER;
    }

    private static int serverOf(int resource) {
        return userOf(resource) / USERS_OF_SERVER;
    }

    private Stream streamOf(int resource) {
        return resource >= 0 && resource < streams.length ? streams[resource] : nowhere;
    }

    private Room roomOf(int room) {
        return room == 0 ? firstRoom : secondRoom;
    }

    private boolean doesBlock(int user, int other) {
        int place = user * USERS + other;
        return place >= 0 && place < blockings.length && blockings[place];
    }

    private void setBlock(int user, int other, boolean isOn) {
        int place = user * USERS + other;
        if (place >= 0 && place < blockings.length) {
            blockings[place] = isOn;
        }
    }

    // ---- acts

    private void beginAct(int resource) {
        wires.here = serverOf(resource);
    }

    private void dispatchFrom(int resource, long stanza) {
        beginAct(resource);
        wires.dispatch(stanza);
    }

    private int countOnLink(int resource) {
        return wires.linkFrom(serverOf(resource)).size();
    }

    /** The stream keeps its STANZAS: what becomes of its MESSAGES is the caller's to say. */
    private void goAway(int resource) {
        beginAct(resource);
        if (streamOf(resource).isAvailable()) {
            vanish(resource);
        }
        for (int room = 0; room < ROOMS; room++) {
            wires.dispatch(Stanza.toRoom(Stanza.LEAVE, room, resource, 0, 0));
        }
        streamOf(resource).how = OFF;
    }

    private void vanish(int resource) {
        streamOf(resource).priority = OFFLINE;
        tellFollowers(resource, OFFLINE);
    }

    private void tellFollowers(int resource, int priority) {
        int self = userOf(resource);
        for (int user = 0; user < USERS; user++) {
            if (followers.of(self, user) == SUBSCRIBED && !doesBlock(self, user)) {
                wires.dispatch(Stanza.presence(resource, priority, user));
            }
        }
    }

    private void probeAll(int resource) {
        int self = userOf(resource);
        for (int user = 0; user < USERS; user++) {
            if (following.of(self, user) == SUBSCRIBED && !doesBlock(self, user)) {
                wires.dispatch(Stanza.probe(resource, user));
            }
        }
    }

    private int putStored(int resource) {
        int user = userOf(resource);
        int count = 0;
        for (int k = 0; k < MOST_STORED && post.keptAt(user, k) != NONE; k++) {
            int number = post.keptAt(user, k);
            int sender = post.senderOf(number);
            long stanza = Stanza.message(number, sender, user);
            if (doesBlock(user, userOf(sender))) {
                bounce(stanza, Stanza.UNAVAILABLE);
            } else {
                streamOf(resource).put(stanza);
                count++;
            }
        }
        post.forgetKept(user);
        return count;
    }

    private void tellOfAll(int user, int target) {
        for (int k = 0; k < RESOURCES_OF_USER; k++) {
            int resource = user * RESOURCES_OF_USER + k;
            if (streamOf(resource).isAvailable()) {
                wires.dispatch(Stanza.presence(resource, streamOf(resource).priority, target));
            }
        }
    }

    private void shut(int self, int user) {
        for (int k = 0; k < RESOURCES_OF_USER; k++) {
            int resource = self * RESOURCES_OF_USER + k;
            if (streamOf(resource).isAvailable() && followers.of(self, user) == SUBSCRIBED) {
                wires.dispatch(Stanza.presence(resource, OFFLINE, user));
            }
        }
        setBlock(self, user, true);
        putToUser(self, Stanza.plain(Stanza.FORGET, user));
    }

    private void unshut(int self, int user) {
        setBlock(self, user, false);
        for (int k = 0; k < RESOURCES_OF_USER; k++) {
            int resource = self * RESOURCES_OF_USER + k;
            if (!streamOf(resource).isAvailable()) {
                continue;
            }
            if (followers.of(self, user) == SUBSCRIBED) {
                wires.dispatch(Stanza.presence(resource, streamOf(resource).priority, user));
            }
            if (following.of(self, user) == SUBSCRIBED) {
                wires.dispatch(Stanza.probe(resource, user));
            }
        }
    }

    // ---- how stanzas come

    private void comeAll() {
        for (int step = 0; step < MOST_STEPS && wires.waiting.size() > 0; step++) {
            long stanza = wires.waiting.removeFirst();
            int target = Stanza.targetOf(stanza);
            if (Stanza.isRoom(target)) {
                roomOf(Stanza.roomAt(target)).receive(stanza);
            } else if (Stanza.isResource(target)) {
                comeToResource(stanza, Stanza.resourceAt(target));
            } else {
                comeToUser(stanza, target);
            }
        }
    }

    private void comeToUser(long stanza, int user) {
        switch (Stanza.kindOf(stanza)) {
            case Stanza.ASK: comeAsk(stanza, user); break;
            case Stanza.YES: comeYes(stanza, user); break;
            case Stanza.NO: comeNo(stanza, user); break;
            case Stanza.END: comeEnd(stanza, user); break;
            case Stanza.PROBE: comeProbe(stanza, user); break;
            case Stanza.MESSAGE: messageToUser(stanza, user); break;
            default:
                if (isWelcome(stanza, user)) {
                    putToUser(user, stanza);
                }
        }
    }

    private void comeToResource(long stanza, int resource) {
        Stream stream = streamOf(resource);
        switch (Stanza.kindOf(stanza)) {
            case Stanza.PRESENCE:
                if (isWelcome(stanza, userOf(resource)) && stream.isAvailable()) {
                    stream.put(stanza);
                }
                break;
            case Stanza.MESSAGE:
                if (stream.how == OFF || doesBlock(userOf(resource), userOf(Stanza.whoOf(stanza)))) {
                    messageToUser(stanza, userOf(resource));
                } else {
                    stream.put(stanza);
                }
                break;
            default:
                if (stream.how != OFF) {
                    stream.put(stanza);
                }
        }
    }

    private boolean isWelcome(long presence, int user) {
        int other = userOf(Stanza.whoOf(presence));
        return following.of(user, other) == SUBSCRIBED && !doesBlock(user, other);
    }

    private void comeAsk(long stanza, int user) {
        int other = Stanza.whoOf(stanza);
        int ask = Stanza.numberOf(stanza);
        if (doesBlock(user, other)) {
            wires.dispatch(Stanza.bond(Stanza.NO, ask, user, other));
        } else {
            followers.set(user, other, ASKED, ask);
            putToUser(user, stanza);
        }
    }

    private void comeYes(long stanza, int user) {
        int other = Stanza.whoOf(stanza);
        int ask = Stanza.numberOf(stanza);
        if (following.of(user, other) == ASKED && following.askOf(user, other) == ask) {
            following.set(user, other, SUBSCRIBED, ask);
            putToUser(user, stanza);
        }
    }

    private void comeNo(long stanza, int user) {
        int other = Stanza.whoOf(stanza);
        if (following.isWith(user, other, Stanza.numberOf(stanza))) {
            following.set(user, other, NOTHING, NONE);
            putToUser(user, stanza);
        }
    }

    private void comeEnd(long stanza, int user) {
        int other = Stanza.whoOf(stanza);
        if (followers.isWith(user, other, Stanza.numberOf(stanza))) {
            followers.set(user, other, NOTHING, NONE);
        }
    }

    private void comeProbe(long stanza, int user) {
        int asker = Stanza.whoOf(stanza);
        int other = userOf(asker);
        if (followers.of(user, other) == SUBSCRIBED && !doesBlock(user, other)) {
            tellOfAll(user, Stanza.atResource(asker));
        }
    }

    private void messageToUser(long stanza, int user) {
        int best = bestOf(user);
        if (doesBlock(user, userOf(Stanza.whoOf(stanza)))) {
            bounce(stanza, Stanza.UNAVAILABLE);
        } else if (best != NONE) {
            streamOf(best).put(stanza);
        } else if (!post.keep(user, Stanza.numberOf(stanza))) {
            bounce(stanza, Stanza.FULL);
        }
    }

    private int bestOf(int user) {
        int best = NONE;
        int highest = NONE;
        for (int k = 0; k < RESOURCES_OF_USER; k++) {
            int resource = user * RESOURCES_OF_USER + k;
            Stream stream = streamOf(resource);
            if (stream.isAvailable() && stream.priority > highest) {
                best = resource;
                highest = stream.priority;
            }
        }
        return best;
    }

    private void bounce(long message, int why) {
        post.markBounced(Stanza.numberOf(message));
        wires.dispatch(Stanza.bounce(Stanza.numberOf(message), why, Stanza.whoOf(message)));
    }

    private void putToUser(int user, long stanza) {
        for (int k = 0; k < RESOURCES_OF_USER; k++) {
            Stream stream = streamOf(user * RESOURCES_OF_USER + k);
            if (stream.isAvailable()) {
                stream.put(stanza);
            }
        }
    }

    // ---- whether all is sound

    private boolean doBondsAgree() {
        for (int user = 0; user < USERS; user++) {
            for (int other = 0; other < USERS; other++) {
                if (following.of(user, other) != followers.of(other, user)
                        || following.askOf(user, other) != followers.askOf(other, user)) {
                    return false;
                }
            }
        }
        return true;
    }

    private boolean doViewsAgree() {
        for (int resource = 0; resource < RESOURCES; resource++) {
            if (!streamOf(resource).isAvailable()) {
                continue;
            }
            streamOf(resource).foresee(view);
            for (int other = 0; other < view.length; other++) {
                if (view[other] != dueView(userOf(resource), other)) {
                    return false;
                }
            }
        }
        return true;
    }

    /** The document names a THEOREM and does not tell it: this is what its acts work towards. */
    private int dueView(int user, int other) {
        int owner = userOf(other);
        boolean isOpen = following.of(user, owner) == SUBSCRIBED
                && !doesBlock(user, owner) && !doesBlock(owner, user);
        return isOpen ? streamOf(other).priority : OFFLINE;
    }

    private void countPlaces() {
        Arrays.fill(places, 0);
        for (int resource = 0; resource < RESOURCES; resource++) {
            countMessages(streamOf(resource).flow, streamOf(resource).pulled);
        }
        for (int server = 0; server < SERVERS; server++) {
            countMessages(wires.linkFrom(server), 0);
        }
        for (int user = 0; user < USERS; user++) {
            for (int k = 0; k < MOST_STORED; k++) {
                countPlace(post.keptAt(user, k));
            }
        }
    }

    private void countMessages(Row row, int start) {
        for (int k = start; k < row.size(); k++) {
            if (Stanza.kindOf(row.at(k)) == Stanza.MESSAGE) {
                countPlace(Stanza.numberOf(row.at(k)));
            }
        }
    }

    private void countPlace(int message) {
        if (message >= 1 && message <= places.length) {
            places[message - 1]++;
        }
    }

    private int placesOf(int message) {
        if (message < 1 || message > places.length) {
            return 0;
        }
        int count = places[message - 1];
        count += post.isBounced(message) ? 1 : 0;
        count += post.takerOf(message) != NONE && !post.isLetGo(message) ? 1 : 0;
        return count;
    }

    // ---- the checksum

    private static long summed(long sum, long value) {
        return sum * 31 + value;
    }

    private long summedText(long sum) {
        for (int k = 0; k < text.size(); k++) {
            sum = summed(sum, text.signAt(k));
        }
        return sum;
    }

    private long sumOfStream(long sum, int resource) {
        for (int what = 0; what <= 6; what++) {
            sum = summed(sum, ofStream(resource, what));
        }
        Stream stream = streamOf(resource);
        for (int k = stream.pulled; k < stream.flow.size(); k++) {
            text.clear();
            text.addStanza(stream.flow.at(k));
            sum = summedText(sum);
        }
        for (int other = 0; other < RESOURCES; other++) {
            text.clear();
            if (stream.seenOf(other) == OFFLINE) {
                text.addWord(NO_TEXT);
            } else {
                text.addNumber(stream.seenOf(other));
            }
            sum = summedText(sum);
        }
        return sum;
    }

    private long sumOfUsers(long sum) {
        for (int user = 0; user < USERS; user++) {
            for (int other = 0; other < USERS; other++) {
                sum = summed(sum, following.of(user, other));
                sum = summed(sum, followers.of(user, other));
                sum = summed(sum, following.askOf(user, other));
                sum = summed(sum, followers.askOf(user, other));
                sum = summed(sum, doesBlock(user, other) ? 1 : 0);
            }
        }
        for (int user = 0; user < USERS; user++) {
            for (int k = 0; k < MOST_STORED; k++) {
                sum = summed(sum, post.keptAt(user, k));
            }
        }
        return sum;
    }

    private long sumOfLink(long sum, int server) {
        Row link = wires.linkFrom(server);
        for (int k = 0; k < link.size(); k++) {
            text.clear();
            text.addStanza(link.at(k));
            text.addTarget(link.at(k));
            sum = summedText(sum);
        }
        return summed(sum, wires.keyOf(server));
    }

    private long sumOfRoom(long sum, int room) {
        for (int what = 0; what <= 2; what++) {
            sum = summed(sum, ofRoom(room, what));
        }
        for (int k = 0; k < MOST_INSIDE; k++) {
            sum = summed(sum, roomOf(room).insideAt(k));
        }
        for (int user = 0; user < USERS; user++) {
            sum = summed(sum, roomOf(room).rankOf(user));
        }
        for (int number = 1; number <= roomOf(room).sayings; number++) {
            sum = summed(sum, roomOf(room).speakerOf(number));
        }
        return sum;
    }

    /** A STANZA is one long, so that to make it, to queue it and to keep it makes no object. */
    private static final class Stanza {
        static final int ASK = 0;
        static final int YES = 1;
        static final int NO = 2;
        static final int END = 3;
        static final int PRESENCE = 4;
        static final int PROBE = 5;
        static final int MESSAGE = 6;
        static final int BOUNCE = 7;
        static final int JOIN = 8;
        static final int LEAVE = 9;
        static final int SAY = 10;
        static final int KICK = 11;
        static final int ROLE = 12;
        static final int MEMBER = 13;
        static final int MODERATE = 14;
        static final int IN = 15;
        static final int OUT = 16;
        static final int SAID = 17;
        static final int NOT = 18;
        static final int BEGIN = 19;
        static final int FORGET = 20;

        static final int UNAVAILABLE = 0;
        static final int FULL = 1;
        static final int GONE = 2;
        static final int FORBIDDEN = 3;
        static final int INSIDE = 4;
        static final int VOICE = 5;
        static final int RIGHT = 6;

        private static final int FIRST_RESOURCE = USERS;
        private static final int FIRST_ROOM = FIRST_RESOURCE + RESOURCES;

        private static final int[] SERVERS_OF_TARGETS = {
            0, 0, 0, 1, 1, 1,
            0, 0, 0, 0, 0, 0, 1, 1, 1, 1, 1, 1,
            0, 1
        };

        private static final int TARGET_SHIFT = 5;
        private static final int WHO_SHIFT = 10;
        private static final int OTHER_SHIFT = 14;
        private static final int VALUE_SHIFT = 18;
        private static final int NUMBER_SHIFT = 32;
        private static final int FIVE_BITS = 31;
        private static final int FOUR_BITS = 15;
        private static final int SIX_BITS = 63;
        /** A PRIORITY may be below 0, and what stands in the long may not. */
        private static final int VALUE_LIFT = 16;

        private static long packed(int kind, int target, int who, int other, int value, int number) {
            int low = kind | target << TARGET_SHIFT | who << WHO_SHIFT | other << OTHER_SHIFT
                    | value + VALUE_LIFT << VALUE_SHIFT;
            return (long) number << NUMBER_SHIFT | low;
        }

        static long plain(int kind, int user) {
            return packed(kind, 0, user, 0, 0, 0);
        }

        static long bond(int kind, int ask, int user, int target) {
            return packed(kind, target, user, 0, 0, ask);
        }

        static long presence(int resource, int priority, int target) {
            return packed(PRESENCE, target, resource, 0, priority, 0);
        }

        static long probe(int resource, int user) {
            return packed(PROBE, user, resource, 0, 0, 0);
        }

        static long message(int number, int sender, int target) {
            return packed(MESSAGE, target, sender, 0, 0, number);
        }

        static long bounce(int number, int why, int sender) {
            return packed(BOUNCE, atResource(sender), 0, 0, why, number);
        }

        static long toRoom(int kind, int room, int resource, int other, int value) {
            return packed(kind, FIRST_ROOM + room, resource, other, value, 0);
        }

        static long fromRoom(int kind, int room, int resource, int value, int target) {
            return packed(kind, atResource(target), resource, room, value, 0);
        }

        static long saying(int room, int number, int speaker, int target) {
            return packed(SAID, atResource(target), speaker, room, 0, number);
        }

        static int kindOf(long stanza) {
            return (int) stanza & FIVE_BITS;
        }

        static int targetOf(long stanza) {
            return (int) stanza >> TARGET_SHIFT & FIVE_BITS;
        }

        static int whoOf(long stanza) {
            return (int) stanza >> WHO_SHIFT & FOUR_BITS;
        }

        static int otherOf(long stanza) {
            return (int) stanza >> OTHER_SHIFT & FOUR_BITS;
        }

        static int valueOf(long stanza) {
            return ((int) stanza >> VALUE_SHIFT & SIX_BITS) - VALUE_LIFT;
        }

        static int numberOf(long stanza) {
            return (int) (stanza >> NUMBER_SHIFT);
        }

        static int atResource(int resource) {
            return FIRST_RESOURCE + resource;
        }

        static boolean isResource(int target) {
            return target >= FIRST_RESOURCE && target < FIRST_ROOM;
        }

        static boolean isRoom(int target) {
            return target >= FIRST_ROOM;
        }

        static int resourceAt(int target) {
            return target - FIRST_RESOURCE;
        }

        static int roomAt(int target) {
            return target - FIRST_ROOM;
        }

        static int serverAt(int target) {
            return target >= 0 && target < SERVERS_OF_TARGETS.length ? SERVERS_OF_TARGETS[target] : 0;
        }

        /** The capitals are what Text puts something else for. */
        static String formOf(int kind) {
            switch (kind) {
                case ASK: return "ask N U";
                case YES: return "yes N U";
                case NO: return "no N U";
                case END: return "end N U";
                case PRESENCE: return "p R P";
                case PROBE: return "probe R";
                case MESSAGE: return "m N R";
                case BOUNCE: return "b N W";
                case JOIN: return "join R";
                case LEAVE: return "leave R";
                case SAY: return "say R";
                case KICK: return "kick R S";
                case ROLE: return "role R S X";
                case MEMBER: return "member R V X";
                case MODERATE: return "moderate R X";
                case IN: return "in G R X";
                case OUT: return "out G R";
                case SAID: return "said G N R";
                case NOT: return "not G W";
                case BEGIN: return "begin";
                default: return "forget U";
            }
        }

        static String reasonOf(int why) {
            switch (why) {
                case UNAVAILABLE: return "unavailable";
                case FULL: return "full";
                case GONE: return "gone";
                case FORBIDDEN: return "forbidden";
                case INSIDE: return "in";
                case VOICE: return "voice";
                default: return "right";
            }
        }
    }

    /** A text is written into the same signs again and again: digest() writes many and keeps none. */
    private static final class Text {
        private final char[] signs = new char[64];
        private int length;

        void clear() {
            length = 0;
        }

        int size() {
            return length;
        }

        char signAt(int k) {
            return k >= 0 && k < length && k < signs.length ? signs[k] : ' ';
        }

        String copy() {
            char[] copied = new char[Math.max(length, 0)];
            for (int k = 0; k < copied.length; k++) {
                copied[k] = signAt(k);
            }
            return new String(copied);
        }

        private void addSign(char sign) {
            if (length >= 0 && length < signs.length) {
                signs[length] = sign;
                length++;
            }
        }

        void addWord(String word) {
            for (int k = 0; k < word.length(); k++) {
                addSign(word.charAt(k));
            }
        }

        void addNumber(int number) {
            long rest = number;
            if (rest < 0) {
                addSign('-');
                rest = -rest;
            }
            long unit = 1;
            for (int digits = 1; digits < 10 && unit * 10 <= rest; digits++) {
                unit *= 10;
            }
            for (; unit > 0; unit /= 10) {
                addSign((char) ('0' + rest / unit % 10));
            }
        }

        void addStanza(long stanza) {
            String form = Stanza.formOf(Stanza.kindOf(stanza));
            for (int k = 0; k < form.length(); k++) {
                char sign = form.charAt(k);
                if (sign >= 'A' && sign <= 'Z') {
                    addPart(sign, stanza);
                } else {
                    addSign(sign);
                }
            }
        }

        private void addPart(int part, long stanza) {
            int value = Stanza.valueOf(stanza);
            switch (part) {
                case 'N': addNumber(Stanza.numberOf(stanza)); break;
                case 'U': addNumber(Stanza.whoOf(stanza)); break;
                case 'V': addNumber(Stanza.otherOf(stanza)); break;
                case 'R': addResource(Stanza.whoOf(stanza)); break;
                case 'S': addResource(Stanza.otherOf(stanza)); break;
                case 'G': addRoom(Stanza.otherOf(stanza)); break;
                case 'X': addNumber(value); break;
                case 'P': addPriority(value); break;
                default: addWord(Stanza.reasonOf(value));
            }
        }

        void addTarget(long stanza) {
            int target = Stanza.targetOf(stanza);
            addWord(" to ");
            if (Stanza.isRoom(target)) {
                addRoom(Stanza.roomAt(target));
            } else if (Stanza.isResource(target)) {
                addResource(Stanza.resourceAt(target));
            } else {
                addNumber(target);
            }
        }

        private void addResource(int resource) {
            addNumber(userOf(resource));
            addSign('.');
            addNumber(resource % RESOURCES_OF_USER);
        }

        private void addRoom(int room) {
            addSign('g');
            addNumber(room);
        }

        private void addPriority(int priority) {
            if (priority == OFFLINE) {
                addWord("off");
            } else {
                addNumber(priority);
            }
        }
    }

    /** STANZAS behind each other: more may be put behind, and the first one taken. */
    private static final class Row {
        private static final int FIRST_LENGTH = 16;
        /** Above what 512 calls put into any row (some 16 each); more is not kept. */
        private static final int MOST_LENGTH = 1 << 15;

        private long[] stanzas = new long[FIRST_LENGTH];
        private int start;
        private int end;

        int size() {
            return end - start;
        }

        long at(int k) {
            int place = start + k;
            return place >= 0 && place < end && place < stanzas.length ? stanzas[place] : 0;
        }

        void add(long stanza) {
            if (end >= stanzas.length) {
                int count = end - start;
                long[] wider = stanzas;
                if (count > stanzas.length / 2 && stanzas.length < MOST_LENGTH) {
                    wider = new long[stanzas.length * 2];
                }
                for (int k = 0; k < count && start + k < stanzas.length && k < wider.length; k++) {
                    wider[k] = stanzas[start + k];
                }
                stanzas = wider;
                start = 0;
                end = count;
            }
            if (end < stanzas.length) {
                stanzas[end] = stanza;
                end++;
            }
        }

        long removeFirst() {
            if (size() <= 0) {
                return 0;
            }
            long stanza = at(0);
            start++;
            if (start == end) {
                clear();
            }
            return stanza;
        }

        void clear() {
            start = 0;
            end = 0;
        }
    }

    /** What is kept of one RESOURCE. */
    private static final class Stream {
        private int how = OFF;
        private final Row flow = new Row();
        private int pulled;
        private int acked;
        private final Row pulledEver = new Row();
        private int priority = OFFLINE;
        private final int[] seen = new int[RESOURCES];

        Stream() {
            Arrays.fill(seen, OFFLINE);
        }

        boolean isAvailable() {
            return priority != OFFLINE;
        }

        void open() {
            empty();
            how = ON;
        }

        void empty() {
            flow.clear();
            pulled = 0;
            acked = 0;
        }

        void put(long stanza) {
            flow.add(stanza);
        }

        int countBehind() {
            return flow.size() - pulled;
        }

        long take() {
            long stanza = flow.at(pulled);
            pulled++;
            pulledEver.add(stanza);
            look(seen, stanza);
            return stanza;
        }

        int seenOf(int other) {
            return other >= 0 && other < seen.length ? seen[other] : OFFLINE;
        }

        /** Writes what would be SEEN if all was pulled. */
        void foresee(int[] view) {
            for (int other = 0; other < view.length; other++) {
                view[other] = seenOf(other);
            }
            for (int k = pulled; k < flow.size(); k++) {
                look(view, flow.at(k));
            }
        }

        private static void look(int[] view, long stanza) {
            int who = Stanza.whoOf(stanza);
            switch (Stanza.kindOf(stanza)) {
                case Stanza.PRESENCE:
                    lookAt(view, who, Stanza.valueOf(stanza));
                    break;
                case Stanza.BEGIN:
                    Arrays.fill(view, OFFLINE);
                    break;
                case Stanza.FORGET:
                case Stanza.NO:
                    for (int k = 0; k < RESOURCES_OF_USER; k++) {
                        lookAt(view, who * RESOURCES_OF_USER + k, OFFLINE);
                    }
                    break;
                default:
            }
        }

        private static void lookAt(int[] view, int other, int priority) {
            if (other >= 0 && other < view.length) {
                view[other] = priority;
            }
        }
    }

    /** What each USER is TO each other one, or FROM each other one, with the numbers of the ASKS. */
    private static final class Bonds {
        private final int[] states = new int[USERS * USERS];
        private final int[] numbers = new int[USERS * USERS];

        Bonds() {
            Arrays.fill(numbers, NONE);
        }

        int of(int user, int other) {
            int place = user * USERS + other;
            return place >= 0 && place < states.length ? states[place] : NOTHING;
        }

        int askOf(int user, int other) {
            int place = user * USERS + other;
            return place >= 0 && place < numbers.length ? numbers[place] : NONE;
        }

        void set(int user, int other, int state, int number) {
            int place = user * USERS + other;
            if (place >= 0 && place < states.length && place < numbers.length) {
                states[place] = state;
                numbers[place] = number;
            }
        }

        boolean isWith(int user, int other, int number) {
            return of(user, other) != NOTHING && askOf(user, other) == number;
        }
    }

    /** What became of each MESSAGE, and what is STORED of each USER. */
    private static final class Post {
        private final int[] senders = new int[MOST_CALLS];
        private final int[] takers = new int[MOST_CALLS];
        /** A bit for each RESOURCE that ever pulled it: its INBOX has it. */
        private final int[] inboxes = new int[MOST_CALLS];
        private final boolean[] areBounced = new boolean[MOST_CALLS];
        private final boolean[] areLetGo = new boolean[MOST_CALLS];
        private final int[] anew = new int[MOST_CALLS];
        private final int[] kept = new int[USERS * MOST_STORED];
        private final int[] keptCounts = new int[USERS];
        private int sent;
        private int received;
        private int bounced;
        private boolean isTakenTwice;

        boolean isFull() {
            return sent >= senders.length;
        }

        boolean has(int message) {
            return message >= 1 && message <= sent && message <= MOST_CALLS;
        }

        int take(int sender) {
            if (!isFull()) {
                sent++;
                senders[sent - 1] = sender;
                takers[sent - 1] = NONE;
            }
            return sent;
        }

        int senderOf(int message) {
            return has(message) ? senders[message - 1] : NONE;
        }

        int takerOf(int message) {
            return has(message) ? takers[message - 1] : NONE;
        }

        boolean isBounced(int message) {
            return has(message) && areBounced[message - 1];
        }

        boolean isLetGo(int message) {
            return has(message) && areLetGo[message - 1];
        }

        int anewOf(int message) {
            return has(message) ? anew[message - 1] : 0;
        }

        void receive(int message, int resource) {
            if (!has(message)) {
                return;
            }
            received += takerOf(message) == NONE ? 1 : 0;
            takers[message - 1] = resource;
            isTakenTwice |= (inboxes[message - 1] >> resource & 1) == 1;
            inboxes[message - 1] |= 1 << resource;
        }

        void markBounced(int message) {
            if (has(message) && !areBounced[message - 1]) {
                areBounced[message - 1] = true;
                bounced++;
            }
        }

        void markLetGo(int message) {
            if (has(message)) {
                areLetGo[message - 1] = true;
            }
        }

        void countAnew(int message) {
            if (has(message)) {
                anew[message - 1]++;
            }
        }

        int keptAt(int user, int k) {
            boolean isThere = user >= 0 && user < keptCounts.length && k >= 0 && k < keptCounts[user];
            int place = user * MOST_STORED + k;
            return isThere && place >= 0 && place < kept.length ? kept[place] : NONE;
        }

        boolean isKept(int message) {
            for (int user = 0; user < USERS; user++) {
                for (int k = 0; k < MOST_STORED; k++) {
                    if (keptAt(user, k) == message) {
                        return true;
                    }
                }
            }
            return false;
        }

        boolean keep(int user, int message) {
            if (user < 0 || user >= keptCounts.length || keptCounts[user] >= MOST_STORED) {
                return false;
            }
            int place = user * MOST_STORED + keptCounts[user];
            if (place < 0 || place >= kept.length) {
                return false;
            }
            kept[place] = message;
            keptCounts[user]++;
            return true;
        }

        void forgetKept(int user) {
            if (user >= 0 && user < keptCounts.length) {
                keptCounts[user] = 0;
            }
        }
    }

    /** Where STANZAS go from one SERVER: to somebody at the same one, or on the LINK. */
    private static final class Wires {
        private static final int FIRST_SECRET = 17;
        private static final int SECOND_SECRET = 23;
        private static final int KEY_RANGE = 97;

        private final Row waiting = new Row();
        private final Row linkFromFirst = new Row();
        private final Row linkFromSecond = new Row();
        private boolean isUp = true;
        private boolean hasFirstProved = true;
        private boolean hasSecondProved = true;
        private int number = 1;
        /** The SERVER where STANZAS are made now. */
        private int here;

        Row linkFrom(int server) {
            return server == 0 ? linkFromFirst : linkFromSecond;
        }

        void dispatch(long stanza) {
            Row way = Stanza.serverAt(Stanza.targetOf(stanza)) == here ? waiting : linkFrom(here);
            way.add(stanza);
        }

        boolean cross(int server) {
            Row link = linkFrom(server);
            if (link.size() == 0) {
                return false;
            }
            here = SERVERS - 1 - server;
            waiting.add(link.removeFirst());
            return true;
        }

        boolean isUp() {
            return isUp;
        }

        boolean isProved() {
            return hasFirstProved && hasSecondProved;
        }

        boolean cut() {
            boolean wasUp = isUp;
            isUp = false;
            hasFirstProved = false;
            hasSecondProved = false;
            return wasUp;
        }

        int mend() {
            isUp = true;
            number++;
            return number;
        }

        int keyOf(int server) {
            int own = server == 0 ? FIRST_SECRET : SECOND_SECRET;
            int others = server == 0 ? SECOND_SECRET : FIRST_SECRET;
            return Math.floorMod(own * number + others, KEY_RANGE);
        }

        void show(int server, int key) {
            if (!isUp || key != keyOf(server)) {
                return;
            }
            if (server == 0) {
                hasFirstProved = true;
            } else {
                hasSecondProved = true;
            }
        }
    }

    private static final class Room {
        private static final int TOLD_AGAIN = 3;

        private final int self;
        private final Wires wires;
        private final int[] inside = new int[MOST_INSIDE];
        private final int[] roles = new int[MOST_INSIDE];
        private int count;
        private final int[] ranks = new int[USERS];
        private final int[] history = new int[MOST_CALLS];
        private int sayings;
        private boolean isModerated;

        Room(int self, Wires wires) {
            this.self = self;
            this.wires = wires;
            int owner = self * USERS_OF_SERVER;
            if (owner >= 0 && owner < ranks.length) {
                ranks[owner] = OWNER;
            }
        }

        int insideAt(int k) {
            return k >= 0 && k < count && k < inside.length ? inside[k] : NONE;
        }

        private int roleAt(int k) {
            return k >= 0 && k < count && k < roles.length ? roles[k] : NONE;
        }

        private int placeOf(int resource) {
            for (int k = 0; k < count; k++) {
                if (insideAt(k) == resource) {
                    return k;
                }
            }
            return NONE;
        }

        int roleInside(int resource) {
            return roleAt(placeOf(resource));
        }

        int rankOf(int user) {
            return user >= 0 && user < ranks.length ? ranks[user] : 0;
        }

        int speakerOf(int number) {
            return number >= 1 && number <= sayings && number <= history.length ? history[number - 1] : NONE;
        }

        boolean hasOutcast() {
            for (int k = 0; k < count; k++) {
                if (rankOf(userOf(insideAt(k))) == OUTCAST) {
                    return true;
                }
            }
            return false;
        }

        void receive(long stanza) {
            int who = Stanza.whoOf(stanza);
            int other = Stanza.otherOf(stanza);
            int value = Stanza.valueOf(stanza);
            switch (Stanza.kindOf(stanza)) {
                case Stanza.JOIN: enter(who); break;
                case Stanza.LEAVE: putOut(who); break;
                case Stanza.SAY: speak(who); break;
                case Stanza.KICK: throwOut(who, other); break;
                case Stanza.ROLE: giveRole(who, other, value); break;
                case Stanza.MEMBER: giveRank(who, other, value); break;
                default: setModerated(who, value == 1);
            }
        }

        private int whyNotEnter(int resource) {
            if (rankOf(userOf(resource)) == OUTCAST) {
                return Stanza.FORBIDDEN;
            }
            if (placeOf(resource) != NONE) {
                return Stanza.INSIDE;
            }
            return count >= MOST_INSIDE ? Stanza.FULL : NONE;
        }

        private void enter(int resource) {
            int why = whyNotEnter(resource);
            if (why != NONE) {
                tellNot(resource, why);
                return;
            }
            for (int k = 0; k < count; k++) {
                wires.dispatch(Stanza.fromRoom(Stanza.IN, self, insideAt(k), roleAt(k), resource));
            }
            int role = firstRoleOf(userOf(resource));
            if (count < inside.length && count < roles.length) {
                inside[count] = resource;
                roles[count] = role;
                count++;
            }
            tellAll(Stanza.IN, resource, role);
            for (int number = Math.max(1, sayings - TOLD_AGAIN + 1); number <= sayings; number++) {
                wires.dispatch(Stanza.saying(self, number, speakerOf(number), resource));
            }
        }

        private int firstRoleOf(int user) {
            if (rankOf(user) == OWNER) {
                return MODERATOR;
            }
            return isModerated && rankOf(user) != MEMBER ? VISITOR : PARTICIPANT;
        }

        private void putOut(int resource) {
            int place = placeOf(resource);
            if (place == NONE) {
                return;
            }
            tellAll(Stanza.OUT, resource, 0);
            for (int k = place; k >= 0 && k + 1 < count && k + 1 < inside.length && k + 1 < roles.length; k++) {
                inside[k] = inside[k + 1];
                roles[k] = roles[k + 1];
            }
            count--;
        }

        private void speak(int resource) {
            int role = roleInside(resource);
            if (role == NONE) {
                tellNot(resource, Stanza.INSIDE);
            } else if (role == VISITOR) {
                tellNot(resource, Stanza.VOICE);
            } else if (sayings < history.length) {
                history[sayings] = resource;
                sayings++;
                for (int k = 0; k < count; k++) {
                    wires.dispatch(Stanza.saying(self, sayings, resource, insideAt(k)));
                }
            }
        }

        private void throwOut(int resource, int other) {
            int role = roleInside(other);
            if (roleInside(resource) == MODERATOR && role != NONE && role < MODERATOR) {
                putOut(other);
            } else {
                tellNot(resource, Stanza.RIGHT);
            }
        }

        private void giveRole(int resource, int other, int role) {
            int place = placeOf(other);
            boolean isFree = place >= 0 && place < roles.length && roles[place] != MODERATOR;
            if (isFree && roleInside(resource) == MODERATOR) {
                roles[place] = role;
                tellAll(Stanza.IN, other, role);
            } else {
                tellNot(resource, Stanza.RIGHT);
            }
        }

        private void giveRank(int resource, int user, int rank) {
            boolean isFree = user >= 0 && user < ranks.length && ranks[user] != OWNER;
            if (!isFree || rankOf(userOf(resource)) != OWNER) {
                tellNot(resource, Stanza.RIGHT);
                return;
            }
            ranks[user] = rank;
            if (rank == OUTCAST) {
                for (int k = 0; k < RESOURCES_OF_USER; k++) {
                    putOut(user * RESOURCES_OF_USER + k);
                }
            }
        }

        private void setModerated(int resource, boolean isOn) {
            if (rankOf(userOf(resource)) == OWNER) {
                isModerated = isOn;
            } else {
                tellNot(resource, Stanza.RIGHT);
            }
        }

        private void tellAll(int kind, int resource, int value) {
            for (int k = 0; k < count; k++) {
                wires.dispatch(Stanza.fromRoom(kind, self, resource, value, insideAt(k)));
            }
        }

        private void tellNot(int resource, int why) {
            wires.dispatch(Stanza.fromRoom(Stanza.NOT, self, 0, why, resource));
        }
    }
}
