/** Promises 24 to 29: the link. */
public final class LinkTest {
    private LinkTest() {
    }

    public static void main(String[] args) {
        failAndRaise();
        keys();
        prove();
        carry();
        carryIsOneByOne();
        carryManyOverTime();
        carryAll();
        System.exit(Check.closed("LinkTest"));
    }

    private static void failAndRaise() {
        Twinchat x = new Twinchat();
        Check.that("25: up", -9, x.raise());
        Check.that("24: was up", true, x.fail());
        Check.that("24: down", 0, x.house(5));
        Check.that("24: not proved", 0, x.house(6));
        Check.that("24: was down", false, x.fail());
        Check.that("25: the second number", 2, x.raise());
        Check.that("25: up", 1, x.house(5));
        Check.that("25: not proved", 0, x.house(6));
        Check.that("25: refused", -9, x.raise());
        Check.that("25: counted", 2, x.house(8));
        x.fail();
        Check.that("25: the third", 3, x.raise());
        x.login(0);
        x.send(0, 3, -1);
        x.fail();
        Check.that("24: what is on the link stays", "m 1 0.0 to 3", x.onLink(0, 0));
        x.raise();
        Check.that("25: and after", "m 1 0.0 to 3", x.onLink(0, 0));
        Check.that("25: one can send while it is down", 2, x.send(0, 3, -1));
    }

    private static void keys() {
        Twinchat x = new Twinchat();
        for (int number = 1; number < 120; number++) {
            Check.that("26: key of 0", (17 * number + 23) % 97, x.key(0));
            Check.that("26: key of 1", (23 * number + 17) % 97, x.key(1));
            x.fail();
            Check.that("26: by the number of now", (17 * number + 23) % 97, x.key(0));
            x.raise();
        }
    }

    private static void prove() {
        Twinchat x = new Twinchat();
        Check.that("27: proved at first", true, x.prove(0, -1));
        x.fail();
        Check.that("27: down", false, x.prove(0, x.key(0)));
        Check.that("27: down", false, x.prove(1, x.key(1)));
        x.raise();
        Check.that("27: told while down was nothing", false, x.prove(0, x.key(0)));
        Check.that("27: a wrong one", false, x.prove(1, x.key(1) + 97));
        Check.that("27: the key of the other one", false, x.prove(1, x.key(0)));
        Check.that("27: again", false, x.prove(0, x.key(0)));
        Check.that("27: both", true, x.prove(1, x.key(1)));
        Check.that("27: a wrong one after", true, x.prove(1, 0));
        Check.that("27: proved", 1, x.house(6));
        Check.that("27: is not counted", 0, x.house(8));
        x.fail();
        Check.that("27: none as it is down", false, x.prove(0, x.key(0)));
        x.raise();
        Check.that("27: proved anew, the other way round", false, x.prove(1, x.key(1)));
        Check.that("27: both", true, x.prove(0, x.key(0)));
    }

    private static void carry() {
        Twinchat x = new Twinchat();
        x.login(0);
        x.login(6);
        for (int k = 0; k < 101; k++) x.send(0, 3, 0);
        x.send(6, 0, 0);
        Check.that("28: one", 1, x.carry(0, 1));
        Check.that("28: came", "m 1 0.0", x.due(6, 0));
        Check.that("28: is not on the link", "m 2 0.0 to 3.0", x.onLink(0, 0));
        Check.that("28: 99", 99, x.carry(0, 99));
        Check.that("28: the last", 1, x.carry(0, 99));
        Check.that("28: nothing", 0, x.carry(0, 99));
        Check.that("28: not of the other one", 1, x.house(4));
        x.fail();
        Check.that("28: down", -9, x.carry(1, 1));
        x.raise();
        x.prove(0, x.key(0));
        Check.that("28: not proved", -9, x.carry(1, 1));
        Check.that("29: not proved", -9, x.carryAll());
        Check.that("28: counted", 3, x.house(8));
        x.prove(1, x.key(1));
        Check.that("28: proved", 1, x.carry(1, 1));
    }

    /** Behind each STANZA that is carried comes all that it makes at that SERVER, ahead of the next. */
    private static void carryIsOneByOne() {
        Twinchat x = new Twinchat();
        x.login(0);
        x.login(1);
        x.login(6);
        x.join(6, 1);
        x.join(0, 1);
        x.send(0, 3, 0);
        x.carry(0, 2);
        Check.that("28: the room told first", "in g1 0.0 1", x.due(6, 1));
        Check.that("28: then the message", "m 1 0.0", x.due(6, 2));
        Check.that("28: answers go the other way", "in g1 3.0 2 to 0.0", x.onLink(1, 0));
    }

    /** Much is on the LINK while some of it is carried: all comes, in its sequence. */
    private static void carryManyOverTime() {
        Twinchat x = new Twinchat();
        x.login(0);
        x.login(6);
        int sent = 0;
        int carried = 0;
        for (int round = 0; round < 100; round++) {
            for (int k = 0; k < 2; k++) {
                sent++;
                x.send(0, 3, 0);
            }
            if (round % 3 != 0) carried += x.carry(0, 2);
            Check.that("28: the next on the link", "m " + (carried + 1) + " 0.0 to 3.0", x.onLink(0, 0));
            Check.that("28: how many", sent - carried, x.house(3));
        }
        carried += x.carryAll();
        Check.that("28: all came", sent, carried);
        for (int k = 0; k < sent; k++) Check.that("28: in sequence", "m " + (k + 1) + " 0.0", x.due(6, k));
    }

    private static void carryAll() {
        Twinchat x = new Twinchat();
        Check.that("29: nothing", 0, x.carryAll());
        x.login(0);
        x.login(6);
        x.login(8);
        x.join(6, 0);
        x.join(8, 0);
        x.join(0, 1);
        x.say(8, 0);
        Check.that("29: with what comes of it", 11, x.carryAll());
        Check.that("29: still", true, x.isStill());
        Check.that("29: 0 first, then 1, one each", "in g0 4.0 1", x.due(8, 1));
        x.fail();
        Check.that("29: down", -9, x.carryAll());
        Check.that("29: counted", 1, x.house(8));
        turns();
    }

    private static void turns() {
        Twinchat x = new Twinchat();
        for (int r = 0; r < 12; r += 2) x.login(r);
        x.block(0, 3, true);
        x.send(0, 4, 0);
        x.send(6, 0, 0);
        x.send(2, 3, 0);
        // 0 carries m1; 1 carries m2, which bounces back behind m3; so m3 comes ahead of the bounce
        Check.that("29: turn by turn", 4, x.carryAll());
        Check.that("29: ahead", "m 3 1.0", x.due(6, 0));
        Check.that("29: behind", "b 2 unavailable", x.due(6, 1));
    }
}
