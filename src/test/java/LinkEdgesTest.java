/** The boundary cases of section 5 and of promises 24 to 29, a test for each sentence that names one. */
public final class LinkEdgesTest {
    private LinkEdgesTest() {
    }

    public static void main(String[] args) {
        upAndProvedAtFirst();
        failOfEachState();
        raiseOfEachState();
        linkNumbers();
        keyAtFirst();
        keyWrapsAround();
        keyWhileDown();
        proveWrongKeys();
        proveWhileDown();
        proveOneAlone();
        proveBothInEachSequence();
        proveAgain();
        proveAnOlderKey();
        provedTillItFails();
        proveOfNoServer();
        carryNothing();
        carryOne();
        carryNinetyNine();
        carryOfEachServer();
        carryCountsWhatIsCarriedAlone();
        carryRefused();
        carryAllOfNothing();
        carryAllOfOneSide();
        carryAllByTurns();
        carryAllWithWhatItMakes();
        carryAllMoreThanNinetyNine();
        downKeepsWhatIsOnIt();
        downHomeGoesOn();
        raisedIsNotCarried();
        textsOnTheLink();
        endOfTheLink();
        System.exit(Check.closed("LinkEdgesTest"));
    }

    private static void proveBoth(Twinchat x) {
        x.prove(0, x.key(0));
        x.prove(1, x.key(1));
    }

    /** 3.0 has what comes from 0.0 over the LINK; so many MESSAGES are on it. */
    private static Twinchat sent(int many) {
        Twinchat x = Chats.logged(0, 6);
        Chats.send(x, 0, 3, 0, many);
        return x;
    }

    /** "The LINK .. is UP (at first) .., and PROVED (at first)". */
    private static void upAndProvedAtFirst() {
        Twinchat x = new Twinchat();
        Check.that("1: up", 1, x.house(5));
        Check.that("1: proved", 1, x.house(6));
        Check.that("28: one can carry", 0, x.carry(0, 1));
        Check.that("29: all", 0, x.carryAll());
    }

    /** "Returns whether it was UP": UP and PROVED, DOWN, UP and not PROVED. */
    private static void failOfEachState() {
        Twinchat x = new Twinchat();
        Check.that("24: up and proved", true, x.fail());
        String before = Whole.of(x);
        Check.that("24: down", false, x.fail());
        Check.that("24: nothing changed", before, Whole.of(x));
        Check.that("24: not refused", 0, x.house(8));
        x.raise();
        Check.that("24: up and not proved", true, x.fail());
        Check.that("24: down again", 0, x.house(5));
    }

    /** "REFUSED if it is UP": PROVED or not. */
    private static void raiseOfEachState() {
        Twinchat x = new Twinchat();
        Check.that("25: up and proved", -9, x.raise());
        Check.that("25: proved still", 1, x.house(6));
        x.fail();
        Check.that("25: down", 2, x.raise());
        Check.that("25: up", 1, x.house(5));
        Check.that("25: not proved", 0, x.house(6));
        Check.that("25: up and not proved", -9, x.raise());
        Check.that("25: counted", 2, x.house(8));
    }

    /** "with the next LINK number (it is 1 at first, so 2 by the first raise)": fail makes none, nor what is REFUSED. */
    private static void linkNumbers() {
        Twinchat x = new Twinchat();
        for (int number = 2; number <= 5; number++) {
            x.raise();
            x.fail();
            x.fail();
            Check.that("25: the next", number, x.raise());
        }
    }

    /** "its SECRET (17 and 23) times the LINK number, and the SECRET of the other one". */
    private static void keyAtFirst() {
        Twinchat x = new Twinchat();
        Check.that("26: 17 and 23", 40, x.key(0));
        Check.that("26: 23 and 17", 40, x.key(1));
        Chats.reraise(x);
        Check.that("26: 34 and 23", 57, x.key(0));
        Check.that("26: 46 and 17", 63, x.key(1));
    }

    /** "by their sum's rest by 97": where the sum is 97, 0, 96 by it; and far on. */
    private static void keyWrapsAround() {
        Twinchat x = new Twinchat();
        for (int number = 2; number <= 250; number++) {
            Chats.reraise(x);
            if (number == 4) Check.that("26: 68 and 23", 91, x.key(0));
            if (number == 5) Check.that("26: 85 and 23 are 108", 11, x.key(0));
            if (number == 3) Check.that("26: 69 and 17", 86, x.key(1));
            if (number == 33) Check.that("26: 759 and 17 are 8 times 97", 0, x.key(1));
            if (number == 50) Check.that("26: 850 and 23 are 9 times 97", 0, x.key(0));
            if (number == 10) Check.that("26: 170 and 23 are 193", 96, x.key(0));
            if (number == 98) Check.that("26: as at first", 40, x.key(0));
            if (number == 250) Check.that("26: 4250 and 23 are 44 times 97 and 5", 5, x.key(0));
        }
    }

    /** "Returns its KEY by the LINK number of now": fail does not change it. */
    private static void keyWhileDown() {
        Twinchat x = new Twinchat();
        x.fail();
        Check.that("26: of 0", 40, x.key(0));
        Check.that("26: of 1", 40, x.key(1));
        x.raise();
        Check.that("26: of 0, then", 57, x.key(0));
    }

    /** "a wrong KEY changes nothing": one beside it, one more by 97, the other one's. */
    private static void proveWrongKeys() {
        for (int server = 0; server < 2; server++) {
            Twinchat x = new Twinchat();
            Chats.reraise(x);
            x.prove(1 - server, x.key(1 - server));
            String before = Whole.of(x);
            int right = x.key(server);
            for (int key : new int[] {right - 1, right + 1, right + 97, right - 97, -right, 0, x.key(1 - server),
                Integer.MIN_VALUE, Integer.MAX_VALUE}) {
                Check.that("27: wrong", false, x.prove(server, key));
                Check.that("27: nothing changed", before, Whole.of(x));
            }
            Check.that("27: not refused", 0, x.house(8));
            Check.that("27: right", true, x.prove(server, right));
        }
    }

    /** "nor one told while the LINK is DOWN". */
    private static void proveWhileDown() {
        Twinchat x = new Twinchat();
        x.fail();
        String before = Whole.of(x);
        Check.that("27: down", false, x.prove(0, x.key(0)));
        Check.that("27: down", false, x.prove(1, x.key(1)));
        Check.that("27: nothing changed", before, Whole.of(x));
        x.raise();
        Check.that("27: nor later", 0, x.house(6));
        Check.that("27: one is not enough", false, x.prove(0, x.key(0)));
        Check.that("27: nor the other alone before", true, x.prove(1, x.key(1)));
    }

    /** "as both have, it is PROVED": one twice is not both. */
    private static void proveOneAlone() {
        for (int server = 0; server < 2; server++) {
            Twinchat x = new Twinchat();
            Chats.reraise(x);
            Check.that("27: one", false, x.prove(server, x.key(server)));
            Check.that("27: one twice", false, x.prove(server, x.key(server)));
            Check.that("47: not proved", 0, x.house(6));
            Check.that("28: not carried", -9, x.carry(server, 1));
        }
    }

    private static void proveBothInEachSequence() {
        for (int first = 0; first < 2; first++) {
            Twinchat x = new Twinchat();
            Chats.reraise(x);
            Check.that("27: the first", false, x.prove(first, x.key(first)));
            Check.that("27: both", true, x.prove(1 - first, x.key(1 - first)));
            Check.that("47: proved", 1, x.house(6));
            Check.that("28: carried", 0, x.carry(first, 1));
        }
    }

    /** "Returns whether the LINK is PROVED then": it is, whatever is told. */
    private static void proveAgain() {
        Twinchat x = new Twinchat();
        Check.that("27: at first, wrong", true, x.prove(1, -1));
        Check.that("27: at first, right", true, x.prove(1, 40));
        Chats.reraise(x);
        proveBoth(x);
        Check.that("27: wrong", true, x.prove(0, 0));
        Check.that("27: right", true, x.prove(0, x.key(0)));
        Check.that("27: proved", 1, x.house(6));
    }

    private static void proveAnOlderKey() {
        Twinchat x = new Twinchat();
        int older = x.key(0);
        Chats.reraise(x);
        Check.that("27: the other one has", false, x.prove(1, x.key(1)));
        Check.that("27: of the number before", false, x.prove(0, older));
    }

    /** "that SERVER has PROVED (till the LINK fails)": both or one alone. */
    private static void provedTillItFails() {
        Twinchat x = new Twinchat();
        Chats.reraise(x);
        x.prove(0, x.key(0));
        Chats.reraise(x);
        Check.that("27: what 0 proved is over", false, x.prove(1, x.key(1)));
        Chats.reraise(x);
        Check.that("27: what 1 proved is over", false, x.prove(0, x.key(0)));
        Check.that("27: both", true, x.prove(1, x.key(1)));
        x.fail();
        Check.that("47: not proved", 0, x.house(6));
        x.raise();
        Check.that("47: nor as it is up", 0, x.house(6));
    }

    /** "if there is no such SERVER": nothing changes, with the KEY of either one. */
    private static void proveOfNoServer() {
        for (int server = 0; server < 2; server++) {
            for (int none : new int[] {-1, 2, Integer.MIN_VALUE, Integer.MAX_VALUE}) {
                Twinchat x = new Twinchat();
                Chats.reraise(x);
                int key = x.key(server);
                Check.badIndex("27: no such server", () -> x.prove(none, key));
                Check.that("27: neither has proved by that", false, x.prove(1 - server, x.key(1 - server)));
            }
        }
    }

    /** "Returns how many were": nothing is on it. */
    private static void carryNothing() {
        Twinchat x = sent(1);
        x.carry(0, 1);
        String before = Whole.of(x);
        Check.that("28: one of none", 0, x.carry(0, 1));
        Check.that("28: 99 of none", 0, x.carry(0, 99));
        Check.that("28: of the other one", 0, x.carry(1, 99));
        Check.that("28: nothing changed", before, Whole.of(x));
        Check.that("28: not refused", 0, x.house(8));
    }

    /** "many is .. 1 to 99": the smallest. */
    private static void carryOne() {
        Twinchat x = sent(2);
        Check.that("28: one of two", 1, x.carry(0, 1));
        Check.that("28: one is left", "m 2 0.0 to 3.0; ", Chats.linked(x, 0));
        Check.that("28: one came", "m 1 0.0; ", Chats.dues(x, 6));
        Check.that("28: the last", 1, x.carry(0, 1));
        Check.that("28: nothing is left", true, x.isStill());
    }

    /** "many is .. 1 to 99": the greatest, with one less, as many and one more there. */
    private static void carryNinetyNine() {
        for (int there = 98; there <= 100; there++) {
            Twinchat x = sent(there);
            Check.that("28: 99 of " + there, Math.min(there, 99), x.carry(0, 99));
            Check.that("28: left of " + there, Math.max(there - 99, 0), x.house(3));
            Check.that("28: came", Math.min(there, 99), x.ofStream(6, 1));
        }
    }

    private static void carryOfEachServer() {
        Twinchat x = Chats.logged(0, 6);
        Chats.send(x, 0, 3, 0, 2);
        Chats.send(x, 6, 0, 0, 3);
        Check.that("28: from 1", 3, x.carry(1, 99));
        Check.that("28: from 0 are left", 2, x.house(3));
        Check.that("28: from 0", 2, x.carry(0, 99));
        Check.that("28: all", true, x.isStill());
    }

    /** What is made by it goes to the end of the other LINK, or comes there; it is not counted. */
    private static void carryCountsWhatIsCarriedAlone() {
        Twinchat x = Chats.logged(0, 6, 8);
        x.join(6, 1);
        x.join(8, 1);
        x.join(0, 1);
        Check.that("28: one", 1, x.carry(0, 99));
        Check.that("28: told at home", "in g1 3.0 2; in g1 4.0 1; in g1 0.0 1; ", Chats.dues(x, 6));
        Check.that("28: told over the link", 3, x.house(4));
    }

    /** "REFUSED if the LINK is not UP and PROVED": DOWN, UP with none, the one, the other PROVED; also with nothing on it. */
    private static void carryRefused() {
        for (int many = 0; many <= 1; many++) {
            Twinchat x = sent(many);
            x.fail();
            Check.that("28: down", -9, x.carry(0, 1));
            Check.that("29: down", -9, x.carryAll());
            x.raise();
            Check.that("28: none has proved", -9, x.carry(0, 99));
            Check.that("29: none has proved", -9, x.carryAll());
            x.prove(0, x.key(0));
            Check.that("28: 0 has proved", -9, x.carry(0, 1));
            Check.that("29: 0 has proved", -9, x.carryAll());
            Chats.reraise(x);
            x.prove(1, x.key(1));
            Check.that("28: 1 has proved", -9, x.carry(1, 1));
            Check.that("29: 1 has proved", -9, x.carryAll());
            Check.that("28: counted", 8, x.house(8));
            Check.that("28: it is there still", many, x.house(3));
            x.prove(0, x.key(0));
            Check.that("28: proved", many, x.carry(0, 1));
        }
    }

    private static void carryAllOfNothing() {
        Twinchat x = new Twinchat();
        String before = Whole.of(x);
        Check.that("29: none", 0, x.carryAll());
        Check.that("29: nothing changed", before, Whole.of(x));
        Check.that("29: not refused", 0, x.house(8));
    }

    /** "till nothing is on a LINK": on one of both. */
    private static void carryAllOfOneSide() {
        for (int server = 0; server < 2; server++) {
            Twinchat x = Chats.logged(0, 6);
            Chats.send(x, 6 * server, 3 - 3 * server, 0, 3);
            Check.that("29: three", 3, x.carryAll());
            Check.that("29: nothing is on a link", true, x.isStill());
            Check.that("29: came", 3, x.ofStream(6 - 6 * server, 1));
        }
    }

    /** "from SERVER 0, then from SERVER 1, one STANZA each, again and again". */
    private static void carryAllByTurns() {
        Twinchat x = Chats.logged(0, 2, 6);
        x.join(0, 0);
        x.join(2, 0);
        x.join(6, 0);
        Chats.pullAll(x);
        x.send(0, 3, 0);
        x.send(2, 3, 0);
        x.say(6, 0);
        // 0 carries m 1, 1 the "join", whose three STANZAS go behind m 2; so 0 carries on, 1 the "say" as it goes
        Check.that("29: all", 8, x.carryAll());
        Check.that("29: in turns", "m 1 0.0; m 2 1.0; in g0 0.0 2; in g0 1.0 1; in g0 3.0 1; said g0 1 3.0; ", Chats.dues(x, 6));
        Check.that("29: at home", "in g0 3.0 1; said g0 1 3.0; ", Chats.dues(x, 0));
    }

    /** What is made on the way is carried too, and counted: an "ask", its "no"; a "probe", its answers. */
    private static void carryAllWithWhatItMakes() {
        Twinchat x = Chats.logged(0, 6, 7);
        x.block(6, 0, true);
        x.subscribe(0, 3);
        Check.that("29: ask and no", 2, x.carryAll());
        x.block(6, 0, false);
        Chats.befriend(x, 0, 6);
        x.available(6, 1);
        x.available(7, 1);
        x.carryAll();
        x.available(0, 1);
        Check.that("29: a probe and two answers", 3, x.carryAll());
    }

    private static void carryAllMoreThanNinetyNine() {
        Twinchat x = sent(150);
        Check.that("29: all", 150, x.carryAll());
        Check.that("29: came", 150, x.ofStream(6, 1));
    }

    /** "what is on the LINK stays"; what is made while it is DOWN goes behind it. */
    private static void downKeepsWhatIsOnIt() {
        Twinchat x = Chats.logged(0, 6);
        x.send(0, 3, 0);
        x.send(6, 0, 0);
        x.fail();
        x.send(0, 3, 0);
        x.join(6, 0);
        x.raise();
        x.send(0, 3, 0);
        Check.that("25: from 0", "m 1 0.0 to 3.0; m 3 0.0 to 3.0; m 4 0.0 to 3.0; ", Chats.linked(x, 0));
        Check.that("25: from 1", "m 2 3.0 to 0.0; join 3.0 to g0; ", Chats.linked(x, 1));
        proveBoth(x);
        Check.that("29: all come, and what the room tells", 6, x.carryAll());
        Check.that("29: in their sequence", "m 1 0.0; m 3 0.0; m 4 0.0; in g0 3.0 1; ", Chats.dues(x, 6));
    }

    /** What stays at its SERVER does not need the LINK. */
    private static void downHomeGoesOn() {
        Twinchat x = Chats.logged(0, 2, 6, 8);
        x.fail();
        x.send(0, 1, 0);
        x.send(6, 4, 0);
        x.join(2, 0);
        x.join(8, 1);
        x.subscribe(0, 1);
        Check.that("16: at server 0", "m 1 0.0; in g0 1.0 1; ", Chats.dues(x, 2));
        Check.that("16: at server 1", "m 2 3.0; in g1 4.0 1; ", Chats.dues(x, 8));
        Check.that("11: asked", 1, x.from(1, 0));
        Check.that("46: still", true, x.isStill());
    }

    private static void raisedIsNotCarried() {
        Twinchat x = sent(1);
        Chats.reraise(x);
        Check.that("25: it is on the link", 1, x.house(3));
        proveBoth(x);
        Check.that("27: to prove carries nothing", 1, x.house(3));
        Check.that("28: carried", 1, x.carry(0, 1));
    }

    /** "" to " and to whom behind it: a USER "U", a RESOURCE "U.k", a ROOM "g0", "g1"": each kind there is. */
    private static void textsOnTheLink() {
        Twinchat x = Chats.logged(0, 1, 6);
        x.subscribe(0, 5);
        x.unsubscribe(1, 5);
        x.send(1, 4, -1);
        x.send(1, 5, 1);
        x.join(1, 1);
        x.leave(1, 1);
        x.say(1, 1);
        x.kick(1, 1, 11);
        x.role(1, 1, 0, 0);
        x.role(1, 1, 11, 1);
        x.member(1, 1, 5, 0);
        x.member(1, 1, 0, 1);
        x.member(1, 1, 5, 3);
        x.moderate(1, 1, true);
        x.moderate(1, 1, false);
        Check.that("40: acts", "ask 1 0 to 5; end 1 0 to 5; m 1 0.1 to 4; m 2 0.1 to 5.1; join 0.1 to g1; leave 0.1 to g1; "
                + "say 0.1 to g1; kick 0.1 5.1 to g1; role 0.1 0.0 0 to g1; role 0.1 5.1 1 to g1; member 0.1 5 0 to g1; "
                + "member 0.1 0 1 to g1; member 0.1 5 3 to g1; moderate 0.1 1 to g1; moderate 0.1 0 to g1; ", Chats.linked(x, 0));
        Twinchat y = Chats.logged(0, 6, 8);
        Chats.befriend(y, 0, 6);
        y.subscribe(0, 4);
        y.carryAll();
        y.block(8, 0, true);
        y.send(0, 4, 0);
        y.join(6, 1);
        y.join(0, 1);
        y.say(0, 1);
        y.leave(0, 1);
        y.leave(0, 1);
        y.kick(0, 1, 6);
        y.available(0, -5);
        y.available(6, 9);
        y.carry(0, 99);
        y.approve(8, 0);
        y.deny(6, 0);
        y.unavailable(6);
        Check.that("40: answers", "p 3.0 9 to 0; b 1 unavailable to 0.0; in g1 3.0 2 to 0.0; in g1 0.0 1 to 0.0; said g1 1 0.0 to 0.0; "
                + "out g1 0.0 to 0.0; not g1 right to 0.0; p 3.0 9 to 0.0; yes 2 4 to 0; no 1 3 to 0; ", Chats.linked(y, 1));
        offIsAText();
    }

    private static void offIsAText() {
        Twinchat x = Chats.logged(0, 8);
        Chats.befriend(x, 0, 8);
        x.available(0, 0);
        x.available(8, 0);
        x.carryAll();
        Chats.pulled(x, 0);
        x.unavailable(8);
        Check.that("40: with to whom", "p 4.0 off to 0; ", Chats.linked(x, 1));
        x.carryAll();
        Check.that("40: without that in a stream", "p 4.0 off; ", Chats.dues(x, 0));
        x.pull(0, 1);
        Check.that("40: nor in an inbox", "p 4.0 off", x.inbox(0, 0));
    }

    /** "one to somebody at the other one goes to the end of the LINK from here to there". */
    private static void endOfTheLink() {
        Twinchat x = Chats.logged(0, 2, 6);
        x.send(0, 3, 0);
        x.send(2, 3, 0);
        Check.that("28: one behind the other", "m 1 0.0 to 3.0; m 2 1.0 to 3.0; ", Chats.linked(x, 0));
        x.carry(0, 1);
        x.send(0, 3, 0);
        Check.that("28: and behind what is left", "m 2 1.0 to 3.0; m 3 0.0 to 3.0; ", Chats.linked(x, 0));
        x.carryAll();
        x.send(0, 3, 0);
        Check.that("28: of an empty one too", "m 4 0.0 to 3.0; ", Chats.linked(x, 0));
    }
}
