/** The boundary cases of promises 30 to 50: what is asked, the house, its checksum. */
public final class AskedEdgesTest {
    private static final int LEAST = Integer.MIN_VALUE;
    private static final int GREATEST = Integer.MAX_VALUE;

    private AskedEdgesTest() {
    }

    public static void main(String[] args) {
        streamFirstAndLast();
        priorityOrNone();
        streamOfOneThatWentAway();
        inboxEmpty();
        inboxOne();
        inboxFromTheLastBack();
        dueEmpty();
        dueOne();
        dueBehindPulled();
        dueOfOneThatIsBroken();
        seesFirstAndLast();
        seesItself();
        bondsOfNobody();
        bondsFirstAndLast();
        bondsOfItself();
        askedWithout();
        blocksFirstAndLast();
        blocksItself();
        storedNone();
        storedFive();
        fateOfNoMessage();
        fateFirstAndLast();
        fateOfStored();
        fateOfBounced();
        fateOfAnew();
        onLinkEmpty();
        onLinkOne();
        roomEmpty();
        roomFull();
        roleOfNobody();
        affiliationFirstAndLast();
        saidNothing();
        saidFirstAndLast();
        stillOfEachSide();
        houseFirstAndLast();
        knocks();
        soundWithALink();
        soundOfLetGo();
        digestWrapsAround();
        digestOfEmptyAndFull();
        digestOfWhatIsAskedAlone();
        System.exit(Check.closed("AskedEdgesTest"));
    }

    /** "what: 0 .. 6", of the first RESOURCE and of the last. */
    private static void streamFirstAndLast() {
        for (int r : new int[] {0, 11}) {
            int other = 11 - r;
            Twinchat x = Chats.logged(r, other);
            int[] one = {1, 0, 0, 0, 0, 0, -1};
            for (int what = 0; what <= 6; what++) Check.that("30: on, " + what, one[what], x.ofStream(r, what));
            x.available(r, 9);
            for (int k = 0; k < 3; k++) x.send(other, r / 2, r % 2);
            x.carryAll();
            x.pull(r, 2);
            x.ack(r);
            x.pull(r, 1);
            x.breaks(r);
            int[] due = {2, 4, 3, 2, 3, 1, 9};
            for (int what = 0; what <= 6; what++) Check.that("30: " + what, due[what], x.ofStream(r, what));
            for (int what = 0; what <= 6; what++) Check.that("30: the other " + what, one[what], x.ofStream(other, what));
        }
    }

    /** "6 PRIORITY (NONE if not AVAILABLE)": -1 may be both, 5 tells which. */
    private static void priorityOrNone() {
        Twinchat x = Chats.logged(0);
        Check.that("30: not available", "0 -1", x.ofStream(0, 5) + " " + x.ofStream(0, 6));
        x.available(0, -1);
        Check.that("30: available by -1", "1 -1", x.ofStream(0, 5) + " " + x.ofStream(0, 6));
        x.available(0, 0);
        Check.that("30: available by 0", "1 0", x.ofStream(0, 5) + " " + x.ofStream(0, 6));
        x.unavailable(0);
        Check.that("30: not available then", "0 -1", x.ofStream(0, 5) + " " + x.ofStream(0, 6));
    }

    /** "its stream is OFF and empty": nothing PUT, PULLED, ACKED; the INBOX stays. */
    private static void streamOfOneThatWentAway() {
        for (boolean isLetGo : new boolean[] {false, true}) {
            Twinchat x = Chats.logged(0, 2);
            x.available(2, 0);
            Chats.send(x, 0, 1, 0, 3);
            x.pull(2, 3);
            x.ack(2);
            if (isLetGo) x.breaks(2);
            if (isLetGo) x.letGo(2);
            else x.logout(2);
            int[] due = {0, 0, 0, 0, 3, 0, -1};
            for (int what = 0; what <= 6; what++) Check.that("30: off, " + what, due[what], x.ofStream(2, what));
            Check.that("32: nothing is due", "-", x.due(2, 0));
        }
    }

    /** ""-" if there are not so many, or k is below 0": of none. */
    private static void inboxEmpty() {
        Twinchat x = Chats.logged(0, 2);
        x.send(0, 1, 0);
        for (int k : new int[] {0, 1, -1, LEAST, GREATEST}) {
            Check.that("31: off", "-", x.inbox(11, k));
            Check.that("31: due, not pulled", "-", x.inbox(2, k));
        }
    }

    private static void inboxOne() {
        Twinchat x = Chats.logged(0, 2);
        x.send(0, 1, 0);
        x.pull(2, 1);
        Check.that("31: the one", "m 1 0.0", x.inbox(2, 0));
        for (int k : new int[] {1, -1, LEAST, GREATEST}) Check.that("31: no other", "-", x.inbox(2, k));
    }

    private static void inboxFromTheLastBack() {
        Twinchat x = Chats.logged(0, 2);
        Chats.send(x, 0, 1, 0, 40);
        x.pull(2, 40);
        for (int k = 0; k < 40; k++) Check.that("31: back " + k, "m " + (40 - k) + " 0.0", x.inbox(2, k));
        Check.that("31: not so many", "-", x.inbox(2, 40));
    }

    private static void dueEmpty() {
        Twinchat x = Chats.logged(0, 2);
        x.send(0, 1, 0);
        x.pull(2, 1);
        for (int k : new int[] {0, 1, -1, LEAST, GREATEST}) {
            Check.that("32: off", "-", x.due(11, k));
            Check.that("32: nothing was put", "-", x.due(0, k));
            Check.that("32: all is pulled", "-", x.due(2, k));
        }
    }

    private static void dueOne() {
        Twinchat x = Chats.logged(0, 2);
        x.send(0, 1, 0);
        Check.that("32: the one", "m 1 0.0", x.due(2, 0));
        for (int k : new int[] {1, -1, LEAST, GREATEST}) Check.that("32: no other", "-", x.due(2, k));
    }

    /** "which STANZA behind PULLED, from 0 on": what is PULLED is not asked by -1. */
    private static void dueBehindPulled() {
        Twinchat x = Chats.logged(0, 2);
        Chats.send(x, 0, 1, 0, 40);
        x.pull(2, 17);
        x.ack(2);
        x.pull(2, 1);
        for (int k = 0; k < 22; k++) Check.that("32: " + k, "m " + (19 + k) + " 0.0", x.due(2, k));
        Check.that("32: not so many", "-", x.due(2, 22));
        Check.that("32: below 0", "-", x.due(2, -1));
    }

    private static void dueOfOneThatIsBroken() {
        Twinchat x = Chats.logged(0, 2);
        x.send(0, 1, 0);
        x.breaks(2);
        Check.that("32: broken", "m 1 0.0", x.due(2, 0));
    }

    /** "Returns the PRIORITY with which it SEES that": first and last RESOURCE. */
    private static void seesFirstAndLast() {
        Twinchat x = Chats.logged(0, 11);
        Chats.befriend(x, 0, 11);
        Chats.befriend(x, 11, 0);
        x.available(0, -5);
        x.available(11, 9);
        x.carryAll();
        Check.that("33: nothing is pulled", "-", x.sees(0, 11));
        Chats.pullAll(x);
        Check.that("33: the last", "9", x.sees(0, 11));
        Check.that("33: the first", "-5", x.sees(11, 0));
        Check.that("33: one that is not available", "-", x.sees(0, 10));
    }

    private static void seesItself() {
        Twinchat x = Chats.logged(0, 1);
        x.available(0, 1);
        x.available(1, 2);
        Chats.pullAll(x);
        Check.that("33: itself", "-", x.sees(0, 0));
        Check.that("33: its other one", "-", x.sees(0, 1));
    }

    /** "NOTHING (0; at first)", "(NONE with NOTHING)". */
    private static void bondsOfNobody() {
        Twinchat x = new Twinchat();
        for (int u = 0; u < 6; u++) {
            for (int v = 0; v < 6; v++) {
                Check.that("34: to", 0, x.to(u, v));
                Check.that("35: from", 0, x.from(u, v));
                Check.that("36: of to", -1, x.asked(u, v, true));
                Check.that("36: of from", -1, x.asked(u, v, false));
                Check.that("37: blocks", false, x.blocks(u, v));
            }
        }
    }

    /** "what it is TO that one", "FROM that one": 0, 1 and 2, of the first USER and of the last. */
    private static void bondsFirstAndLast() {
        for (int r : new int[] {0, 10}) {
            int u = r / 2;
            int v = 5 - u;
            Twinchat x = Chats.logged(0, 10);
            x.subscribe(r, v);
            Check.that("34: asked", 1, x.to(u, v));
            Check.that("35: nothing", 0, x.from(v, u));
            x.carryAll();
            Check.that("35: asked", 1, x.from(v, u));
            x.approve(2 * v, u);
            Check.that("35: subscribed", 2, x.from(v, u));
            Check.that("34: asked still", 1, x.to(u, v));
            x.carryAll();
            Check.that("34: subscribed", 2, x.to(u, v));
            Check.that("34: not the other way", 0, x.to(v, u));
            Check.that("35: not the other way", 0, x.from(u, v));
            Check.that("36: of to", 1, x.asked(u, v, true));
            Check.that("36: of from", 1, x.asked(v, u, false));
            Check.that("36: not the other way", -1, x.asked(v, u, true));
            Check.that("36: not the other way", -1, x.asked(u, v, false));
        }
    }

    /** "(0 of itself)". */
    private static void bondsOfItself() {
        Twinchat x = Chats.logged(0, 6, 10);
        Chats.befriend(x, 0, 10);
        Chats.befriend(x, 10, 0);
        for (int u = 0; u < 6; u++) {
            Check.that("34: itself", 0, x.to(u, u));
            Check.that("35: itself", 0, x.from(u, u));
            Check.that("36: itself", -1, x.asked(u, u, true));
            Check.that("36: itself", -1, x.asked(u, u, false));
        }
    }

    /** "NONE without": never, no longer. */
    private static void askedWithout() {
        Twinchat x = Chats.logged(0, 6);
        Check.that("36: never", -1, x.asked(0, 3, true));
        x.subscribe(0, 3);
        Check.that("36: on the link", -1, x.asked(3, 0, false));
        x.carryAll();
        x.unsubscribe(0, 3);
        Check.that("36: to no longer", -1, x.asked(0, 3, true));
        Check.that("36: from still", 1, x.asked(3, 0, false));
        x.carryAll();
        Check.that("36: from no longer", -1, x.asked(3, 0, false));
    }

    private static void blocksFirstAndLast() {
        Twinchat x = Chats.logged(0, 11);
        x.block(0, 5, true);
        Check.that("37: the first", true, x.blocks(0, 5));
        Check.that("37: not the last", false, x.blocks(5, 0));
        x.block(11, 0, true);
        Check.that("37: the last", true, x.blocks(5, 0));
    }

    private static void blocksItself() {
        Twinchat x = Chats.logged(0);
        for (int v = 1; v < 6; v++) x.block(0, v, true);
        Check.that("37: never itself", false, x.blocks(0, 0));
    }

    /** "NONE without": of nothing STORED. */
    private static void storedNone() {
        Twinchat x = Chats.logged(0);
        for (int k : new int[] {0, 4, 5, -1, LEAST, GREATEST}) {
            Check.that("38: the first user", -1, x.stored(0, k));
            Check.that("38: the last user", -1, x.stored(5, k));
        }
    }

    /** "from 0 on": 0 and 4 are the ends of five; those of the USERS beside are not among them. */
    private static void storedFive() {
        for (int user : new int[] {1, 4}) {
            Twinchat x = Chats.logged(4);
            for (int v = user - 1; v <= user + 1; v++) if (v != 2) Chats.send(x, 4, v, -1, 5);
            x.carryAll();
            // the first five went to the USER ahead of it
            for (int k = 0; k < 5; k++) Check.that("38: " + k, 6 + k, x.stored(user, k));
            for (int k : new int[] {5, -1, 6, LEAST, GREATEST}) Check.that("38: none at " + k, -1, x.stored(user, k));
        }
    }

    /** "-2 if there is no such MESSAGE". */
    private static void fateOfNoMessage() {
        Twinchat x = Chats.logged(0);
        for (int number : new int[] {1, 0, -1, LEAST, GREATEST}) {
            for (int what = 0; what <= 4; what++) Check.that("39: none was sent", -2, x.fate(number, what));
        }
        x.send(0, 1, -1);
        for (int number : new int[] {2, 0, -1, LEAST, GREATEST}) {
            for (int what = 0; what <= 4; what++) Check.that("39: one was sent", -2, x.fate(number, what));
        }
    }

    /** "0 the RESOURCE that sent it, 1 the one that RECEIVED it (NONE)": RESOURCE 0 is not NONE. */
    private static void fateFirstAndLast() {
        Twinchat x = Chats.logged(0, 11);
        x.send(0, 5, 1);
        x.send(11, 0, 0);
        x.carryAll();
        int[][] before = {{0, -1, 0, 0, 0}, {11, -1, 0, 0, 0}};
        int[][] after = {{0, 11, 0, 0, 0}, {11, 0, 0, 0, 0}};
        for (int what = 0; what <= 4; what++) {
            for (int k = 0; k < 2; k++) Check.that("39: " + what, before[k][what], x.fate(k + 1, what));
        }
        Chats.pullAll(x);
        for (int what = 0; what <= 4; what++) {
            for (int k = 0; k < 2; k++) Check.that("39: received, " + what, after[k][what], x.fate(k + 1, what));
        }
    }

    /** "3 1 if it is STORED": of the first USER and the last, the first and the fifth; not when it is PUT. */
    private static void fateOfStored() {
        for (int user : new int[] {0, 5}) {
            Twinchat x = Chats.logged(4, 2 * user);
            Chats.send(x, 4, user, -1, 5);
            Check.that("39: on the way, or there", user == 5 ? 0 : 1, x.fate(1, 3));
            x.carryAll();
            for (int number = 1; number <= 5; number++) Check.that("39: stored", 1, x.fate(number, 3));
            x.available(2 * user, 0);
            for (int number = 1; number <= 5; number++) Check.that("39: put", 0, x.fate(number, 3));
        }
    }

    /** "2 1 if it was BOUNCED": for each reason there is; it stays so. */
    private static void fateOfBounced() {
        Twinchat x = Chats.logged(0, 2, 4);
        Chats.send(x, 0, 1, -1, 6);
        x.block(4, 0, true);
        x.send(0, 2, 0);
        x.send(0, 1, 0);
        x.breaks(2);
        x.letGo(2);
        int[] due = {0, 0, 0, 0, 0, 1, 1, 1};
        for (int k = 0; k < 8; k++) Check.that("39: full, unavailable, gone", due[k], x.fate(k + 1, 2));
        Chats.pullAll(x);
        for (int k = 0; k < 8; k++) Check.that("39: it stays so", due[k], x.fate(k + 1, 2));
        Check.that("47: as many", 3, x.house(2));
    }

    /** "4 how often it was DELIVERED ANEW": 0, 1, 2; to be PUT behind it was STORED is not that. */
    private static void fateOfAnew() {
        Twinchat x = Chats.logged(0, 2);
        x.send(0, 1, 0);
        Check.that("39: never", 0, x.fate(1, 4));
        x.logout(2);
        Check.that("39: once", 1, x.fate(1, 4));
        x.login(2);
        x.available(2, 0);
        Check.that("39: that is not anew", 1, x.fate(1, 4));
        x.logout(2);
        Check.that("39: twice", 2, x.fate(1, 4));
    }

    private static void onLinkEmpty() {
        Twinchat x = Chats.logged(0, 6);
        for (int k : new int[] {0, 1, -1, LEAST, GREATEST}) {
            Check.that("40: from 0", "-", x.onLink(0, k));
            Check.that("40: from 1", "-", x.onLink(1, k));
        }
        x.send(0, 3, 0);
        x.carryAll();
        Check.that("40: carried", "-", x.onLink(0, 0));
    }

    private static void onLinkOne() {
        Twinchat x = Chats.logged(0, 6);
        for (int server = 0; server < 2; server++) {
            x.send(6 * server, 3 - 3 * server, 1);
            Check.that("40: the one", "m " + (server + 1) + (server == 0 ? " 0.0 to 3.1" : " 3.0 to 0.1"), x.onLink(server, 0));
            for (int k : new int[] {1, -1, LEAST, GREATEST}) Check.that("40: no other", "-", x.onLink(server, k));
        }
    }

    private static void roomEmpty() {
        Twinchat x = new Twinchat();
        for (int g = 0; g < 2; g++) {
            for (int what = 0; what <= 2; what++) Check.that("41: " + what, 0, x.ofRoom(g, what));
            for (int k : new int[] {0, 1, -1, 4, 5, LEAST, GREATEST}) Check.that("42: none at " + k, -1, x.occupant(g, k));
        }
    }

    /** "as they came": 0 and 4 are the ends of five. */
    private static void roomFull() {
        for (int g = 0; g < 2; g++) {
            Twinchat x = new Twinchat();
            for (int k = 0; k < 5; k++) {
                x.login(6 * g + 5 - k);
                x.join(6 * g + 5 - k, g);
                Check.that("41: one more", k + 1, x.ofRoom(g, 0));
            }
            for (int k = 0; k < 5; k++) Check.that("42: as they came", 6 * g + 5 - k, x.occupant(g, k));
            for (int k : new int[] {5, -1, 6, LEAST, GREATEST}) Check.that("42: none at " + k, -1, x.occupant(g, k));
            Check.that("41: the other is empty", 0, x.ofRoom(1 - g, 0));
            Check.that("42: none in the other", -1, x.occupant(1 - g, 0));
        }
    }

    /** "NONE if it is not in": VISITOR is 0, and not NONE. */
    private static void roleOfNobody() {
        Twinchat x = Chats.logged(0, 11);
        for (int r = 0; r < 12; r++) Check.that("43: empty", -1, x.roleOf(0, r));
        x.moderate(0, 0, true);
        x.join(0, 0);
        x.join(11, 0);
        x.carryAll();
        Check.that("43: the first", 2, x.roleOf(0, 0));
        Check.that("43: the last", 0, x.roleOf(0, 11));
        Check.that("43: not in", -1, x.roleOf(0, 1));
        Check.that("43: not in the other room", -1, x.roleOf(1, 11));
    }

    private static void affiliationFirstAndLast() {
        Twinchat x = Chats.logged(0, 6);
        x.member(0, 0, 5, 1);
        x.member(6, 1, 0, 3);
        Check.that("44: the first", 2, x.affiliation(0, 0));
        Check.that("44: the last", 1, x.affiliation(0, 5));
        Check.that("44: the first of the other", 3, x.affiliation(1, 0));
        Check.that("44: the last of the other", 0, x.affiliation(1, 5));
    }

    /** "NONE without": of an empty HISTORY. */
    private static void saidNothing() {
        Twinchat x = Chats.logged(0);
        x.join(0, 0);
        for (int number : new int[] {0, 1, -1, LEAST, GREATEST}) {
            Check.that("45: room 0", -1, x.said(0, number));
            Check.that("45: room 1", -1, x.said(1, number));
        }
    }

    /** "numbered from 1": 0 is none; RESOURCE 0 is not NONE. */
    private static void saidFirstAndLast() {
        Twinchat x = Chats.logged(0, 2);
        x.join(0, 0);
        x.join(2, 0);
        x.say(0, 0);
        x.say(2, 0);
        Check.that("45: the first", 0, x.said(0, 1));
        Check.that("45: the last", 2, x.said(0, 2));
        for (int number : new int[] {3, 0, -1, LEAST, GREATEST}) Check.that("45: none at " + number, -1, x.said(0, number));
        Check.that("45: the other room", -1, x.said(1, 1));
    }

    /** "nothing is on a LINK": from SERVER 0, from SERVER 1; DOWN does not matter. */
    private static void stillOfEachSide() {
        for (int server = 0; server < 2; server++) {
            Twinchat x = Chats.logged(0, 6);
            Check.that("46: nothing", true, x.isStill());
            x.send(6 * server, 3 - 3 * server, 0);
            Check.that("46: one", false, x.isStill());
            x.carryAll();
            Check.that("46: carried", true, x.isStill());
            x.fail();
            Check.that("46: down", true, x.isStill());
            x.send(6 * server, 3 - 3 * server, 0);
            Check.that("46: one while it is down", false, x.isStill());
        }
    }

    /** "what: 0 .. 9": each counts one thing alone. */
    private static void houseFirstAndLast() {
        int[] none = {0, 0, 0, 0, 0, 1, 1, 0, 0, 0};
        for (int one = 0; one <= 9; one++) {
            Twinchat x = Chats.logged(0, 2, 4, 6);
            x.block(4, 0, true);
            int[] due = none.clone();
            if (one == 0) x.send(0, 1, -1);
            if (one == 1) x.send(0, 1, 0);
            if (one == 1) x.pull(2, 1);
            if (one == 2) x.send(0, 2, 0);
            if (one <= 2) due[0] = 1;
            if (one == 3) x.say(0, 1);
            if (one == 4) x.say(6, 0);
            if (one == 5) x.fail();
            if (one == 5) due[6] = 0;
            if (one == 6) Chats.reraise(x);
            if (one == 7) x.subscribe(0, 1);
            if (one == 8) x.raise();
            if (one == 9) x.knock();
            due[one] = one == 5 || one == 6 ? 0 : 1;
            for (int what = 0; what <= 9; what++) Check.that("47: " + what + " of " + one, due[what], x.house(what));
        }
    }

    /** "Returns how often one knocked, with this": that one alone is changed. */
    private static void knocks() {
        Twinchat x = Chats.logged(0);
        String before = Whole.of(x);
        for (int k = 1; k <= 3; k++) {
            Check.that("48: with this", k, x.knock());
            Check.that("47: as often", k, x.house(9));
        }
        Check.that("48: nothing else", before.replaceFirst("0 [|] 0: ", "3 | 0: "), Whole.of(x));
    }

    /** "if nothing is on a LINK": with something on it TO and FROM may differ. */
    private static void soundWithALink() {
        Twinchat x = Chats.logged(0, 6);
        x.available(0, 0);
        x.subscribe(0, 3);
        Check.that("49: to, not from", true, x.isSound());
        x.carryAll();
        Check.that("49: both", true, x.isSound());
        x.available(6, 1);
        x.approve(6, 0);
        Check.that("49: from, not to", true, x.isSound());
        x.carry(1, 1);
        Check.that("49: subscribed, not seen", true, x.isSound());
        x.carryAll();
        Check.that("49: would be seen, as all was pulled", true, x.isSound());
        x.pull(0, 2);
        Check.that("49: not pulled yet", "-", x.sees(0, 6));
        Check.that("49: sound", true, x.isSound());
    }

    /** "(one that was let go by its stream counts as BOUNCED)": RECEIVED ahead of it, or not. */
    private static void soundOfLetGo() {
        Twinchat x = Chats.logged(0, 2);
        Chats.send(x, 0, 1, 0, 2);
        x.pull(2, 1);
        x.breaks(2);
        x.letGo(2);
        Check.that("49: received and bounced", "2 1", x.fate(1, 1) + " " + x.fate(1, 2));
        Check.that("49: bounced alone", "-1 1", x.fate(2, 1) + " " + x.fate(2, 2));
        Check.that("49: sound", true, x.isSound());
        Check.that("50: in the checksum", Whole.digest(x), x.digest());
    }

    /** "which wraps around as a 64-bit integer": house() alone is ten times 31, with 7676 more than 63 bits. */
    private static void digestWrapsAround() {
        Twinchat x = new Twinchat();
        java.math.BigInteger d = java.math.BigInteger.valueOf(7676);
        java.math.BigInteger factor = java.math.BigInteger.valueOf(31);
        for (int v : valuesOfANewOne()) d = d.multiply(factor).add(java.math.BigInteger.valueOf(v));
        Check.that("50: more than 64 bits", true, d.bitLength() > 64);
        Check.that("50: the lowest 64 of them", d.longValue(), x.digest());
    }

    private static int[] valuesOfANewOne() {
        StringBuilder all = new StringBuilder("0 0 0 0 0 1 1 0 0 0 ");
        for (int r = 0; r < 12; r++) {
            all.append("0 0 0 0 0 0 -1 ");
            for (int s = 0; s < 12; s++) all.append((int) '-').append(' ');
        }
        for (int k = 0; k < 36; k++) all.append("0 0 -1 -1 0 ");
        for (int k = 0; k < 30; k++) all.append("-1 ");
        all.append("40 40 ");
        all.append("0 0 0 -1 -1 -1 -1 -1 2 0 0 0 0 0 ");
        all.append("0 0 0 -1 -1 -1 -1 -1 0 0 0 2 0 0 ");
        all.append("1");
        String[] words = all.toString().split(" ");
        int[] values = new int[words.length];
        for (int k = 0; k < words.length; k++) values[k] = Integer.parseInt(words[k]);
        return values;
    }

    /** Of what is empty nothing goes in; of what is full all. */
    private static void digestOfEmptyAndFull() {
        Twinchat x = Chats.logged(0, 1, 2, 3, 4, 5, 10);
        Check.that("50: empty", Whole.digest(x), x.digest());
        for (int r = 0; r < 5; r++) x.join(r, 0);
        for (int k = 0; k < 12; k++) x.say(k % 5, 0);
        Chats.send(x, 4, 0, -1, 6);
        Chats.send(x, 4, 5, -1, 6);
        x.carryAll();
        x.available(10, -5);
        x.available(4, -5);
        Chats.befriend(x, 10, 4);
        x.pull(10, 99);
        for (int v = 0; v < 5; v++) x.block(10, v, true);
        Chats.send(x, 4, 3, 1, 3);
        x.join(10, 0);
        Check.that("50: full", Whole.digest(x), x.digest());
        Chats.pullAll(x);
        Check.that("50: pulled", Whole.digest(x), x.digest());
        x.carryAll();
        Check.that("50: carried", Whole.digest(x), x.digest());
    }

    /** What is asked changes nothing, not even what is asked amiss. */
    private static void digestOfWhatIsAskedAlone() {
        Twinchat x = Chats.logged(0, 6);
        Chats.befriend(x, 0, 6);
        x.send(0, 3, 0);
        x.join(0, 0);
        long before = x.digest();
        Check.that("50: again", before, x.digest());
        Whole.of(x);
        Check.that("50: behind all questions", before, x.digest());
        x.inbox(0, -1);
        x.due(0, 99);
        x.stored(0, 9);
        x.fate(99, 0);
        x.onLink(0, 99);
        x.occupant(0, 9);
        x.said(0, 9);
        Check.that("50: behind those without an answer", before, x.digest());
        x.knock();
        Check.that("50: a knock is in it", Whole.digest(x), x.digest());
        Check.that("50: so it is another one", false, before == x.digest());
    }
}
