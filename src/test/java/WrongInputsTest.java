/**
 * Every promise that throws: which exception, which of several, and that nothing changes by it.
 * Each wrong call is made on a house of its own, where it would change something if it was taken;
 * then the house goes on, so that what the call left behind unseen would come to light.
 */
public final class WrongInputsTest {
    private static final String INDEX = "IndexOutOfBoundsException";
    private static final String ARGUMENT = "IllegalArgumentException";
    private static final String STATE = "IllegalStateException";

    private static final int[] NO_RESOURCES = {-1, 12, Integer.MIN_VALUE, Integer.MAX_VALUE};
    private static final int[] NO_USERS = {-1, 6, Integer.MIN_VALUE, Integer.MAX_VALUE};
    private static final int[] NO_PAIRS = {-1, 2, Integer.MIN_VALUE, Integer.MAX_VALUE};
    private static final int[] NO_MANY = {0, 100, -1, Integer.MIN_VALUE, Integer.MAX_VALUE};

    private static final int ON = 0;
    private static final int OFF = 1;
    private static final int BROKEN = 2;

    private static final String[] BEFORE = {Whole.of(house(0)), Whole.of(house(1)), Whole.of(house(2))};
    private static final String[] AFTER = {Whole.of(goneOn(house(0))), Whole.of(goneOn(house(1))), Whole.of(goneOn(house(2)))};

    private WrongInputsTest() {
    }

    private interface Act {
        Object on(Twinchat x);
    }

    public static void main(String[] args) {
        indexesOfStreams();
        indexesOfUsers();
        indexesOfRooms();
        indexesOfTheLink();
        indexesOfQuestions();
        argumentsOfStreams();
        argumentsOfUsers();
        argumentsOfRooms();
        argumentsOfQuestions();
        statesOfStreams();
        statesOfUsers();
        statesOfRooms();
        System.exit(Check.closed("WrongInputsTest"));
    }

    /**
     * RESOURCE 0 is ON, 1 OFF, 2 BROKEN; what an act could touch is there for each of them. The LINK
     * is PROVED (0), UP and not PROVED (1) or DOWN (2).
     */
    private static Twinchat house(int kind) {
        Twinchat x = Chats.logged(0, 1, 2, 3, 4, 6, 8, 10);
        x.available(0, -1);
        x.available(2, 3);
        x.available(6, 5);
        Chats.befriend(x, 0, 6);
        Chats.befriend(x, 2, 6);
        x.subscribe(8, 0);
        x.subscribe(8, 1);
        Chats.befriend(x, 6, 0);
        x.block(0, 5, true);
        x.block(2, 5, true);
        x.carryAll();
        x.send(4, 0, 1);
        x.pull(1, 1);
        x.send(4, 0, 1);
        x.join(1, 0);
        for (int r = 0; r <= 2; r += 2) {
            x.join(r, 0);
            Chats.send(x, 4, r / 2, 0, 3);
            x.pull(r, 2);
            x.ack(r);
            x.pull(r, 2);
        }
        x.logout(1);
        x.join(6, 0);
        x.carryAll();
        x.breaks(2);
        x.send(0, 3, 0);
        x.send(6, 0, 0);
        if (kind > 0) x.fail();
        if (kind == 1) x.raise();
        return x;
    }

    private static Twinchat goneOn(Twinchat x) {
        x.say(0, 0);
        x.say(0, 1);
        x.raise();
        x.prove(0, x.key(0));
        x.prove(1, x.key(1));
        x.carryAll();
        x.say(6, 1);
        x.carryAll();
        Chats.pullAll(x);
        return x;
    }

    private static void wrong(String name, String exception, Act act) {
        for (int kind = 0; kind < BEFORE.length; kind++) {
            Twinchat x = house(kind);
            long refused = x.house(8);
            long digest = x.digest();
            Check.throwsBy(name, exception, () -> act.on(x));
            Check.that(name + " changes nothing", BEFORE[kind], Whole.of(x));
            Check.that(name + " is not counted as refused", refused, x.house(8));
            Check.that(name + " changes no checksum", digest, x.digest());
            Check.that(name + " leaves nothing behind", AFTER[kind], Whole.of(goneOn(x)));
        }
    }

    // ---- no such RESOURCE, USER, ROOM, SERVER: all else is wrong too where it can be

    private static void indexesOfStreams() {
        for (int r : NO_RESOURCES) {
            wrong("2: no resource", INDEX, x -> x.login(r));
            wrong("3: no resource", INDEX, x -> x.pull(r, 1));
            wrong("3: ahead of many", INDEX, x -> x.pull(r, 0));
            wrong("4: no resource", INDEX, x -> x.ack(r));
            wrong("5: no resource", INDEX, x -> x.breaks(r));
            wrong("6: no resource", INDEX, x -> x.resume(r));
            wrong("7: no resource", INDEX, x -> x.letGo(r));
            wrong("8: no resource", INDEX, x -> x.logout(r));
            wrong("9: no resource", INDEX, x -> x.available(r, 0));
            wrong("9: ahead of priority", INDEX, x -> x.available(r, 10));
            wrong("10: no resource", INDEX, x -> x.unavailable(r));
        }
    }

    private static void indexesOfUsers() {
        for (int r : NO_RESOURCES) {
            for (int u : new int[] {2, -1}) {
                wrong("11: no resource", INDEX, x -> x.subscribe(r, u));
                wrong("12: no resource", INDEX, x -> x.unsubscribe(r, u));
                wrong("13: no resource", INDEX, x -> x.approve(r, u));
                wrong("14: no resource", INDEX, x -> x.deny(r, u));
                wrong("15: no resource", INDEX, x -> x.block(r, u, true));
                wrong("15: no resource", INDEX, x -> x.block(r, u, false));
                wrong("16: no resource", INDEX, x -> x.send(r, u, 0));
                wrong("16: ahead of which", INDEX, x -> x.send(r, u, 2));
            }
        }
        for (int u : NO_USERS) {
            // of one that is ON, then ahead of the state
            for (int r : new int[] {ON, OFF, BROKEN}) {
                wrong("11: no user", INDEX, x -> x.subscribe(r, u));
                wrong("12: no user", INDEX, x -> x.unsubscribe(r, u));
                wrong("13: no user", INDEX, x -> x.approve(r, u));
                wrong("14: no user", INDEX, x -> x.deny(r, u));
                wrong("15: no user", INDEX, x -> x.block(r, u, true));
                wrong("15: no user", INDEX, x -> x.block(r, u, false));
                wrong("16: no user", INDEX, x -> x.send(r, u, -1));
                wrong("16: ahead of which", INDEX, x -> x.send(r, u, 2));
            }
        }
    }

    private static void indexesOfRooms() {
        for (int r : NO_RESOURCES) {
            for (int g : new int[] {0, 1, 2}) {
                wrong("17: no resource", INDEX, x -> x.join(r, g));
                wrong("18: no resource", INDEX, x -> x.leave(r, g));
                wrong("19: no resource", INDEX, x -> x.say(r, g));
                wrong("20: no resource", INDEX, x -> x.kick(r, g, 2));
                wrong("21: no resource", INDEX, x -> x.role(r, g, 2, 2));
                wrong("22: no resource", INDEX, x -> x.member(r, g, 1, 2));
                wrong("23: no resource", INDEX, x -> x.moderate(r, g, true));
            }
            for (int who : new int[] {ON, OFF, BROKEN}) {
                wrong("20: no other", INDEX, x -> x.kick(who, 0, r));
                wrong("21: no other", INDEX, x -> x.role(who, 0, r, 1));
                wrong("21: no other, ahead of role", INDEX, x -> x.role(who, 0, r, 2));
            }
        }
        for (int g : NO_PAIRS) {
            for (int r : new int[] {ON, OFF, BROKEN}) {
                wrong("17: no room", INDEX, x -> x.join(r, g));
                wrong("18: no room", INDEX, x -> x.leave(r, g));
                wrong("19: no room", INDEX, x -> x.say(r, g));
                wrong("20: no room", INDEX, x -> x.kick(r, g, 2));
                wrong("21: no room", INDEX, x -> x.role(r, g, 2, 0));
                wrong("21: no room, ahead of role", INDEX, x -> x.role(r, g, 2, 2));
                wrong("22: no room", INDEX, x -> x.member(r, g, 1, 3));
                wrong("22: no room, ahead of affiliation", INDEX, x -> x.member(r, g, 1, 2));
                wrong("23: no room", INDEX, x -> x.moderate(r, g, true));
            }
        }
        for (int u : NO_USERS) {
            for (int r : new int[] {ON, OFF, BROKEN}) {
                wrong("22: no user", INDEX, x -> x.member(r, 0, u, 3));
                wrong("22: no user, ahead of affiliation", INDEX, x -> x.member(r, 0, u, 2));
            }
        }
    }

    private static void indexesOfTheLink() {
        for (int server : NO_PAIRS) {
            wrong("26: no server", INDEX, x -> x.key(server));
            wrong("27: no server", INDEX, x -> x.prove(server, 0));
            wrong("27: no server, the key of 0", INDEX, x -> x.prove(server, x.key(0)));
            wrong("27: no server, the key of 1", INDEX, x -> x.prove(server, x.key(1)));
            wrong("28: no server", INDEX, x -> x.carry(server, 1));
            wrong("28: no server, ahead of many", INDEX, x -> x.carry(server, 0));
            wrong("40: no server", INDEX, x -> x.onLink(server, 0));
            wrong("40: no server, k below 0", INDEX, x -> x.onLink(server, -1));
        }
    }

    private static void indexesOfQuestions() {
        for (int r : NO_RESOURCES) {
            wrong("30: no resource", INDEX, x -> x.ofStream(r, 0));
            wrong("30: ahead of what", INDEX, x -> x.ofStream(r, 7));
            wrong("31: no resource", INDEX, x -> x.inbox(r, 0));
            wrong("31: k below 0", INDEX, x -> x.inbox(r, -1));
            wrong("32: no resource", INDEX, x -> x.due(r, 0));
            wrong("32: k below 0", INDEX, x -> x.due(r, -1));
            wrong("33: no resource", INDEX, x -> x.sees(r, 0));
            wrong("33: no other", INDEX, x -> x.sees(0, r));
            wrong("33: neither", INDEX, x -> x.sees(r, r));
            wrong("43: no resource", INDEX, x -> x.roleOf(0, r));
        }
        for (int u : NO_USERS) {
            wrong("34: no user", INDEX, x -> x.to(u, 0));
            wrong("34: no other", INDEX, x -> x.to(0, u));
            wrong("34: neither", INDEX, x -> x.to(u, u));
            wrong("35: no user", INDEX, x -> x.from(u, 0));
            wrong("35: no other", INDEX, x -> x.from(0, u));
            wrong("35: neither", INDEX, x -> x.from(u, u));
            for (boolean isTo : new boolean[] {true, false}) {
                wrong("36: no user", INDEX, x -> x.asked(u, 0, isTo));
                wrong("36: no other", INDEX, x -> x.asked(0, u, isTo));
                wrong("36: neither", INDEX, x -> x.asked(u, u, isTo));
            }
            wrong("37: no user", INDEX, x -> x.blocks(u, 0));
            wrong("37: no other", INDEX, x -> x.blocks(0, u));
            wrong("37: neither", INDEX, x -> x.blocks(u, u));
            wrong("38: no user", INDEX, x -> x.stored(u, 0));
            wrong("38: no user, k below 0", INDEX, x -> x.stored(u, -1));
            wrong("44: no user", INDEX, x -> x.affiliation(0, u));
        }
        for (int g : NO_PAIRS) {
            wrong("41: no room", INDEX, x -> x.ofRoom(g, 0));
            wrong("41: ahead of what", INDEX, x -> x.ofRoom(g, 3));
            wrong("42: no room", INDEX, x -> x.occupant(g, 0));
            wrong("42: no room, k below 0", INDEX, x -> x.occupant(g, -1));
            wrong("43: no room", INDEX, x -> x.roleOf(g, 0));
            wrong("44: no room", INDEX, x -> x.affiliation(g, 0));
            wrong("45: no room", INDEX, x -> x.said(g, 1));
            wrong("45: no room, number below 1", INDEX, x -> x.said(g, 0));
        }
    }

    // ---- an argument out of its range: of one that is ON, then ahead of the state

    private static void argumentsOfStreams() {
        for (int r : new int[] {ON, OFF, BROKEN}) {
            for (int many : NO_MANY) wrong("3: many " + many, ARGUMENT, x -> x.pull(r, many));
            for (int priority : new int[] {-6, 10, Integer.MIN_VALUE, Integer.MAX_VALUE}) {
                wrong("9: priority " + priority, ARGUMENT, x -> x.available(r, priority));
            }
        }
        // ahead of REFUSED too: two of the houses have no LINK that is PROVED
        for (int server = 0; server < 2; server++) {
            int from = server;
            for (int many : NO_MANY) wrong("28: many " + many, ARGUMENT, x -> x.carry(from, many));
        }
    }

    private static void argumentsOfUsers() {
        // RESOURCE, its own USER: the first and the last USER, even and odd RESOURCES, ON and not
        int[][] own = {{ON, 0}, {OFF, 0}, {BROKEN, 1}, {3, 1}, {10, 5}, {11, 5}};
        for (int[] pair : own) {
            int r = pair[0];
            int u = pair[1];
            wrong("11: its own user", ARGUMENT, x -> x.subscribe(r, u));
            wrong("12: its own user", ARGUMENT, x -> x.unsubscribe(r, u));
            wrong("13: its own user", ARGUMENT, x -> x.approve(r, u));
            wrong("14: its own user", ARGUMENT, x -> x.deny(r, u));
            wrong("15: its own user", ARGUMENT, x -> x.block(r, u, true));
            wrong("15: its own user", ARGUMENT, x -> x.block(r, u, false));
            for (int which = -2; which <= 2; which++) {
                int k = which;
                wrong("16: its own user", ARGUMENT, x -> x.send(r, u, k));
            }
        }
        for (int r : new int[] {ON, OFF, BROKEN}) {
            for (int which : new int[] {-2, 2, Integer.MIN_VALUE, Integer.MAX_VALUE}) {
                wrong("16: which " + which, ARGUMENT, x -> x.send(r, 3, which));
                // who is blocked would be REFUSED
                wrong("16: which " + which + ", blocked", ARGUMENT, x -> x.send(r, 5, which));
            }
        }
    }

    private static void argumentsOfRooms() {
        for (int r : new int[] {ON, OFF, BROKEN}) {
            for (int role : new int[] {-1, 2, Integer.MIN_VALUE, Integer.MAX_VALUE}) {
                wrong("21: role " + role, ARGUMENT, x -> x.role(r, 0, 2, role));
            }
            for (int rank : new int[] {-1, 2, 4, Integer.MIN_VALUE, Integer.MAX_VALUE}) {
                wrong("22: affiliation " + rank, ARGUMENT, x -> x.member(r, 0, 1, rank));
                wrong("22: affiliation " + rank + " of its own user", ARGUMENT, x -> x.member(r, 0, r / 2, rank));
            }
        }
    }

    private static void argumentsOfQuestions() {
        for (int what : new int[] {-1, 7, Integer.MIN_VALUE, Integer.MAX_VALUE}) {
            for (int r : new int[] {ON, OFF, BROKEN}) wrong("30: what " + what, ARGUMENT, x -> x.ofStream(r, what));
        }
        for (int what : new int[] {-1, 5, Integer.MIN_VALUE, Integer.MAX_VALUE}) {
            wrong("39: what " + what, ARGUMENT, x -> x.fate(1, what));
            wrong("39: what " + what + " of no message", ARGUMENT, x -> x.fate(0, what));
            wrong("39: what " + what + " of no message", ARGUMENT, x -> x.fate(999, what));
        }
        for (int what : new int[] {-1, 3, Integer.MIN_VALUE, Integer.MAX_VALUE}) {
            for (int room = 0; room < 2; room++) {
                int g = room;
                wrong("41: what " + what, ARGUMENT, x -> x.ofRoom(g, what));
            }
        }
        for (int what : new int[] {-1, 10, Integer.MIN_VALUE, Integer.MAX_VALUE}) {
            wrong("47: what " + what, ARGUMENT, x -> x.house(what));
        }
    }

    // ---- a stream that is not as it must be

    private static void statesOfStreams() {
        wrong("2: on", STATE, x -> x.login(ON));
        wrong("2: broken", STATE, x -> x.login(BROKEN));
        wrong("6: on", STATE, x -> x.resume(ON));
        wrong("6: off", STATE, x -> x.resume(OFF));
        wrong("7: on", STATE, x -> x.letGo(ON));
        wrong("7: off", STATE, x -> x.letGo(OFF));
        for (int r : new int[] {OFF, BROKEN}) {
            wrong("3: not on", STATE, x -> x.pull(r, 1));
            wrong("3: not on", STATE, x -> x.pull(r, 99));
            wrong("4: not on", STATE, x -> x.ack(r));
            wrong("5: not on", STATE, x -> x.breaks(r));
            wrong("8: not on", STATE, x -> x.logout(r));
            wrong("9: not on", STATE, x -> x.available(r, -5));
            wrong("9: not on", STATE, x -> x.available(r, 9));
            wrong("10: not on", STATE, x -> x.unavailable(r));
        }
    }

    /** First what would be done of one that is ON, then what would be REFUSED. */
    private static void statesOfUsers() {
        for (int r : new int[] {OFF, BROKEN}) {
            wrong("11: not on", STATE, x -> x.subscribe(r, 2));
            wrong("11: not on, blocked", STATE, x -> x.subscribe(r, 5));
            wrong("11: not on, subscribed", STATE, x -> x.subscribe(r, 3));
            wrong("12: not on", STATE, x -> x.unsubscribe(r, 3));
            wrong("12: not on, nothing", STATE, x -> x.unsubscribe(r, 2));
            wrong("13: not on", STATE, x -> x.approve(r, 4));
            wrong("13: not on, nothing", STATE, x -> x.approve(r, 2));
            wrong("14: not on", STATE, x -> x.deny(r, 4));
            wrong("14: not on, nothing", STATE, x -> x.deny(r, 2));
            wrong("15: not on", STATE, x -> x.block(r, 2, true));
            wrong("15: not on", STATE, x -> x.block(r, 5, false));
            wrong("15: not on, blocked", STATE, x -> x.block(r, 5, true));
            wrong("15: not on, not blocked", STATE, x -> x.block(r, 2, false));
            for (int which = -1; which <= 1; which++) {
                int k = which;
                wrong("16: not on", STATE, x -> x.send(r, 2, k));
                wrong("16: not on, blocked", STATE, x -> x.send(r, 5, k));
            }
        }
    }

    private static void statesOfRooms() {
        for (int r : new int[] {OFF, BROKEN}) {
            for (int room = 0; room < 2; room++) {
                int g = room;
                wrong("17: not on", STATE, x -> x.join(r, g));
                wrong("18: not on", STATE, x -> x.leave(r, g));
                wrong("19: not on", STATE, x -> x.say(r, g));
                wrong("20: not on", STATE, x -> x.kick(r, g, 6));
                wrong("21: not on", STATE, x -> x.role(r, g, 6, 0));
                wrong("22: not on", STATE, x -> x.member(r, g, 3, 3));
                wrong("23: not on", STATE, x -> x.moderate(r, g, true));
                wrong("23: not on", STATE, x -> x.moderate(r, g, false));
            }
        }
    }
}
