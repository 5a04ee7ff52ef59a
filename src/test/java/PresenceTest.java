/** Promises 9 to 15: presence, subscriptions, blocks. */
public final class PresenceTest {
    private PresenceTest() {
    }

    public static void main(String[] args) {
        available();
        availableAgain();
        availableTakesStored();
        unavailable();
        subscribe();
        subscribeToOneWhoBlocks();
        unsubscribe();
        approve();
        deny();
        oldAsks();
        block();
        unblock();
        blocksOfBoth();
        probes();
        atOneServer();
        oneWay();
        probeOfTheFirst();
        neighbours();
        System.exit(Check.closed("PresenceTest"));
    }

    private static void available() {
        Twinchat x = Chats.logged(0, 2, 6, 10);
        Chats.befriend(x, 2, 0);
        Chats.befriend(x, 6, 0);
        Chats.befriend(x, 10, 0);
        Chats.befriend(x, 0, 10);
        Chats.befriend(x, 0, 6);
        Check.that("9: available", 0, x.available(0, -5));
        Check.that("9: it is", 1, x.ofStream(0, 5));
        Check.that("9: priority", -5, x.ofStream(0, 6));
        Check.that("9: told to all, then probes", "p 0.0 -5 to 3; p 0.0 -5 to 5; probe 0.0 to 3; probe 0.0 to 5; ", Chats.linked(x, 0));
        Check.that("9: begin", "begin; ", Chats.dues(x, 0));
        Check.that("9: who is not available is told nothing", "", Chats.dues(x, 2));
        x.carryAll();
        x.block(0, 5, true);
        x.carryAll();
        x.unavailable(0);
        x.carryAll();
        x.available(0, 9);
        Check.that("9: one that is blocked is told nothing", "p 0.0 9 to 3; probe 0.0 to 3; ", Chats.linked(x, 0));
    }

    private static void availableAgain() {
        Twinchat x = Chats.logged(0, 6);
        Chats.befriend(x, 0, 6);
        Chats.befriend(x, 6, 0);
        x.available(0, 1);
        x.carryAll();
        x.available(0, 2);
        Check.that("9: again: no probe", "p 0.0 2 to 3; ", Chats.linked(x, 0));
        Check.that("9: again: no begin", "begin; ", Chats.dues(x, 0));
        Check.that("9: again: priority", 2, x.ofStream(0, 6));
    }

    private static void availableTakesStored() {
        Twinchat x = Chats.logged(0, 2, 3, 4);
        x.send(0, 1, -1);
        x.send(4, 1, -1);
        x.send(0, 1, -1);
        x.block(2, 2, true);
        Check.that("9: below 0 nothing is put", 0, x.available(2, -1));
        Check.that("9: stored still", 2, x.stored(1, 1));
        Check.that("9: two are put, one bounced", 2, x.available(2, 0));
        Check.that("9: in their sequence", "begin; m 1 0.0; m 3 0.0; ", Chats.dues(x, 2));
        Check.that("9: bounced", "b 2 unavailable; ", Chats.dues(x, 4));
        Check.that("9: nothing is stored", -1, x.stored(1, 0));
        Check.that("9: fate", 0, x.fate(1, 3));
        Check.that("9: nothing more", 0, x.available(3, 0));
        Check.that("9: sound", true, x.isSound());
    }

    private static void unavailable() {
        Twinchat x = Chats.logged(0, 2, 6);
        Chats.befriend(x, 6, 0);
        Chats.befriend(x, 2, 0);
        Check.that("10: refused", -9, x.unavailable(0));
        Check.that("10: counted", 1, x.house(8));
        x.available(0, -3);
        x.carryAll();
        x.block(0, 1, true);
        x.available(2, 0);
        Check.that("10: priority before", -3, x.unavailable(0));
        Check.that("10: told", "p 0.0 off to 3; ", Chats.linked(x, 0));
        Check.that("10: not to one that is blocked", "begin; ", Chats.dues(x, 2));
        Check.that("10: not available", 0, x.ofStream(0, 5));
        Check.that("10: the stream is on", 1, x.ofStream(0, 0));
        Check.that("10: refused again", -9, x.unavailable(0));
    }

    private static void subscribe() {
        Twinchat x = Chats.logged(0, 2, 3, 6);
        x.available(2, 0);
        x.available(3, -1);
        Check.that("11: the first ask", 1, x.subscribe(0, 1));
        Check.that("11: to", 1, x.to(0, 1));
        Check.that("11: from", 1, x.from(1, 0));
        Check.that("11: number of to", 1, x.asked(0, 1, true));
        Check.that("11: number of from", 1, x.asked(1, 0, false));
        Check.that("11: put to all available", "begin; ask 1 0; ", Chats.dues(x, 3));
        Check.that("11: put to all available", "begin; ask 1 0; ", Chats.dues(x, 2));
        Check.that("11: on the link", 2, x.subscribe(0, 3));
        Check.that("11: not come yet", 0, x.from(3, 0));
        Check.that("11: text", "ask 2 0 to 3; ", Chats.linked(x, 0));
        Check.that("11: asked already", -9, x.subscribe(0, 3));
        x.carryAll();
        x.approve(6, 0);
        x.carryAll();
        Check.that("11: subscribed already", -9, x.subscribe(0, 3));
        x.block(0, 2, true);
        Check.that("11: blocked", -9, x.subscribe(0, 2));
        Check.that("11: asks", 2, x.house(7));
        Check.that("11: refused", 3, x.house(8));
        Check.that("11: the other way is free", 3, x.subscribe(6, 0));
    }

    private static void subscribeToOneWhoBlocks() {
        Twinchat x = Chats.logged(0, 6);
        x.available(0, 0);
        x.available(6, 0);
        x.block(6, 0, true);
        x.subscribe(0, 3);
        x.carry(0, 1);
        Check.that("11: not asked", 0, x.from(3, 0));
        Check.that("11: no", "no 1 3 to 0; ", Chats.linked(x, 1));
        Check.that("11: not put", "begin; forget 0; ", Chats.dues(x, 6));
        x.carryAll();
        Check.that("11: nothing", 0, x.to(0, 3));
        Check.that("11: without a number", -1, x.asked(0, 3, true));
        Check.that("11: no is put", "begin; no 1 3; ", Chats.dues(x, 0));
    }

    private static void unsubscribe() {
        Twinchat x = Chats.logged(0, 1, 6);
        Check.that("12: nothing", -9, x.unsubscribe(0, 3));
        Chats.befriend(x, 0, 6);
        x.available(0, 0);
        x.carryAll();
        x.available(6, 4);
        x.carryAll();
        Check.that("12: the number", 1, x.unsubscribe(0, 3));
        Check.that("12: end", "end 1 0 to 3; ", Chats.linked(x, 0));
        Check.that("12: forget", "begin; p 3.0 4; forget 3; ", Chats.dues(x, 0));
        Check.that("12: not to one that is not available", "", Chats.dues(x, 1));
        Check.that("12: to", 0, x.to(0, 3));
        Check.that("12: no number", -1, x.asked(0, 3, true));
        Check.that("12: from still", 2, x.from(3, 0));
        x.carryAll();
        Check.that("12: from", 0, x.from(3, 0));
        Check.that("12: without a number", -1, x.asked(3, 0, false));
        Check.that("12: refused", -9, x.unsubscribe(0, 3));
        x.pull(0, 99);
        Check.that("12: not seen", "-", x.sees(0, 6));
        x.subscribe(0, 3);
        Check.that("12: one that is asked", 2, x.unsubscribe(0, 3));
        Check.that("12: refusals", 2, x.house(8));
    }

    private static void approve() {
        Twinchat x = Chats.logged(0, 6, 7);
        Check.that("13: not asked", -9, x.approve(6, 0));
        x.available(0, 0);
        x.available(6, 4);
        x.available(7, -2);
        x.subscribe(0, 3);
        x.carryAll();
        Check.that("13: the number", 1, x.approve(6, 0));
        Check.that("13: from", 2, x.from(3, 0));
        Check.that("13: to, not yet", 1, x.to(0, 3));
        Check.that("13: yes, then presence", "yes 1 3 to 0; p 3.0 4 to 0; p 3.1 -2 to 0; ", Chats.linked(x, 1));
        x.carryAll();
        Check.that("13: to", 2, x.to(0, 3));
        Check.that("13: put", "begin; yes 1 3; p 3.0 4; p 3.1 -2; ", Chats.dues(x, 0));
        Check.that("13: subscribed", -9, x.approve(6, 0));
        Check.that("13: refusals", 2, x.house(8));
        Twinchat y = Chats.logged(0, 6);
        y.available(6, 1);
        y.subscribe(0, 3);
        y.carryAll();
        y.block(6, 0, true);
        Check.that("13: one that is blocked", 1, y.approve(6, 0));
        Check.that("13: is told yes alone", "yes 1 3 to 0; ", Chats.linked(y, 1));
    }

    private static void deny() {
        Twinchat x = Chats.logged(0, 6);
        Check.that("14: nothing", -9, x.deny(6, 0));
        x.available(0, 0);
        x.available(6, 0);
        x.subscribe(0, 3);
        x.carryAll();
        Check.that("14: asked", 1, x.deny(6, 0));
        Check.that("14: from", 0, x.from(3, 0));
        Check.that("14: without a number", -1, x.asked(3, 0, false));
        Check.that("14: no", "no 1 3 to 0; ", Chats.linked(x, 1));
        x.carryAll();
        Check.that("14: to", 0, x.to(0, 3));
        Check.that("14: put", "begin; no 1 3; ", Chats.dues(x, 0));
        Chats.befriend(x, 0, 6);
        Check.that("14: subscribed", 2, x.deny(6, 0));
        x.carryAll();
        x.pull(0, 99);
        Check.that("14: not seen", "-", x.sees(0, 6));
        Check.that("14: refusals", 1, x.house(8));
    }

    /** What goes with the number of an older ASK does nothing. */
    private static void oldAsks() {
        Twinchat x = Chats.logged(0, 6);
        x.available(0, 0);
        x.subscribe(0, 3);
        x.carryAll();
        x.approve(6, 0);
        x.unsubscribe(0, 3);
        x.subscribe(0, 3);
        x.carry(1, 99);
        Check.that("13: an old yes", 1, x.to(0, 3));
        Check.that("13: is not put", "begin; forget 3; ", Chats.dues(x, 0));
        x.carryAll();
        Check.that("12: the old end came ahead", 1, x.from(3, 0));
        x.deny(6, 0);
        x.unsubscribe(0, 3);
        x.subscribe(0, 3);
        x.carry(1, 99);
        Check.that("14: an old no", 1, x.to(0, 3));
        Check.that("14: with its number", 3, x.asked(0, 3, true));
        x.carryAll();
        Check.that("14: asked", 3, x.asked(3, 0, false));
    }

    private static void block() {
        Twinchat x = Chats.logged(0, 6, 7);
        Chats.befriend(x, 0, 6);
        Chats.befriend(x, 6, 0);
        x.available(0, 1);
        x.available(6, 2);
        x.available(7, 3);
        x.carryAll();
        x.pull(6, 99);
        x.pull(7, 99);
        x.pull(0, 99);
        Check.that("15: seen", "1", x.sees(6, 0));
        Check.that("15: block", 1, x.block(6, 0, true));
        Check.that("15: off", "p 3.0 off to 0; p 3.1 off to 0; ", Chats.linked(x, 1));
        Check.that("15: forget", "forget 0; ", Chats.dues(x, 7));
        Check.that("15: blocks", true, x.blocks(3, 0));
        Check.that("15: not the other way", false, x.blocks(0, 3));
        Check.that("15: refused", -9, x.block(6, 0, true));
        Check.that("15: two", 2, x.block(7, 4, true));
        x.carryAll();
        x.available(0, 5);
        x.carryAll();
        Check.that("15: no presence comes", "forget 0; forget 4; ", Chats.dues(x, 6));
        x.pull(0, 99);
        Check.that("15: not seen", "-", x.sees(0, 6));
        Check.that("15: subscribed still", 2, x.to(3, 0));
        Check.that("15: sound", true, x.isSound());
        Twinchat y = Chats.logged(0, 6);
        y.available(6, 0);
        y.subscribe(0, 3);
        y.carryAll();
        y.block(6, 0, true);
        Check.that("15: asked alone: no off", "", Chats.linked(y, 1));
    }

    private static void unblock() {
        Twinchat x = Chats.logged(0, 6, 7);
        Check.that("15: does not", -9, x.block(6, 0, false));
        Chats.befriend(x, 0, 6);
        Chats.befriend(x, 6, 0);
        x.block(6, 0, true);
        x.block(6, 5, true);
        x.available(0, 1);
        x.available(6, 2);
        x.available(7, 3);
        x.carryAll();
        Check.that("15: one is left", 1, x.block(6, 0, false));
        Check.that("15: each tells and asks, one by one",
                "p 3.0 2 to 0; probe 3.0 to 0; p 3.1 3 to 0; probe 3.1 to 0; ", Chats.linked(x, 1));
        x.carryAll();
        x.pull(0, 99);
        x.pull(6, 99);
        Check.that("15: seen", "2", x.sees(0, 6));
        Check.that("15: sees", "1", x.sees(6, 0));
        Check.that("15: sound", true, x.isSound());
    }

    private static void blocksOfBoth() {
        Twinchat x = Chats.logged(0, 6);
        Chats.befriend(x, 0, 6);
        Chats.befriend(x, 6, 0);
        x.available(0, 1);
        x.carryAll();
        x.available(6, 2);
        x.carryAll();
        x.block(0, 3, true);
        x.block(6, 0, true);
        x.carryAll();
        x.block(0, 3, false);
        x.carryAll();
        Check.that("15: no answer to a probe", "begin; p 3.0 2; forget 3; ", Chats.dues(x, 0));
        Check.that("15: sound", true, x.isSound());
        x.block(6, 0, false);
        x.carryAll();
        Check.that("15: both tell again", "begin; p 3.0 2; forget 3; p 3.0 2; ", Chats.dues(x, 0));
        Check.that("15: sound", true, x.isSound());
    }

    /** Nobody carries: all comes within the act, whoever acted ahead of it. */
    private static void atOneServer() {
        Twinchat x = Chats.logged(6, 8, 0);
        x.available(6, 1);
        x.available(8, 2);
        x.knock();
        x.available(0, 3);
        x.subscribe(8, 3);
        Check.that("11: came", "begin; ask 1 4; ", Chats.dues(x, 6));
        x.unavailable(0);
        x.approve(6, 4);
        Check.that("13: came", "begin; yes 1 3; p 3.0 1; ", Chats.dues(x, 8));
        x.available(0, 3);
        x.available(6, 4);
        Check.that("9: came", "begin; yes 1 3; p 3.0 1; p 3.0 4; ", Chats.dues(x, 8));
        x.unavailable(6);
        Check.that("10: came", "begin; yes 1 3; p 3.0 1; p 3.0 4; p 3.0 off; ", Chats.dues(x, 8));
        x.available(6, 5);
        x.unavailable(0);
        x.block(6, 4, true);
        x.available(0, 3);
        x.block(6, 4, false);
        Check.that("15: came", "begin; yes 1 3; p 3.0 1; p 3.0 4; p 3.0 off; p 3.0 5; p 3.0 off; p 3.0 5; ", Chats.dues(x, 8));
        x.unavailable(0);
        x.deny(6, 4);
        Check.that("14: came", 0, x.to(4, 3));
        x.subscribe(8, 3);
        Check.that("11: came", 1, x.from(3, 4));
        x.available(0, 3);
        x.unsubscribe(8, 3);
        Check.that("12: came", 0, x.from(3, 4));
        Check.that("15: nothing went over the link", true, x.isStill());
        Check.that("15: sound", true, x.isSound());
    }

    /** FROM is for what one tells, TO for what one asks. */
    private static void oneWay() {
        Twinchat x = Chats.logged(0, 6);
        Chats.befriend(x, 0, 6);
        x.available(0, 1);
        x.available(6, 2);
        x.carryAll();
        x.block(0, 3, true);
        Check.that("15: who is TO alone tells nothing", "", Chats.linked(x, 0));
        x.block(0, 3, false);
        Check.that("15: who is TO alone asks", "probe 0.0 to 3; ", Chats.linked(x, 0));
        x.carryAll();
        x.block(6, 0, true);
        Check.that("15: who is FROM alone tells", "p 3.0 off to 0; ", Chats.linked(x, 1));
        x.carryAll();
        x.block(6, 0, false);
        Check.that("15: who is FROM alone does not ask", "p 3.0 2 to 0; ", Chats.linked(x, 1));
        x.carryAll();
        x.unavailable(0);
        Check.that("10: who is TO alone tells nothing", "", Chats.linked(x, 0));
        x.available(0, 4);
        Check.that("9: who is TO alone asks", "probe 0.0 to 3; ", Chats.linked(x, 0));
        x.unavailable(6);
        x.available(6, 4);
        Check.that("9: who is FROM alone tells", "p 3.0 off to 0; p 3.0 4 to 0; ", Chats.linked(x, 1));
        x.carryAll();
        Check.that("15: sound", true, x.isSound());
    }

    /** What is of USER 3 is no affair of the USERS beside it. */
    private static void neighbours() {
        Twinchat x = Chats.logged(0, 5, 6, 8);
        x.available(5, 5);
        x.available(8, 8);
        x.available(0, 0);
        Chats.befriend(x, 0, 6);
        Chats.befriend(x, 6, 0);
        Chats.befriend(x, 0, 8);
        x.available(6, 6);
        x.carryAll();
        x.pull(0, 99);
        x.pull(5, 99);
        x.pull(8, 99);
        x.block(6, 0, true);
        Check.that("15: off of its own alone", "p 3.0 off to 0; ", Chats.linked(x, 1));
        Check.that("15: forgotten by its own alone", "", Chats.dues(x, 8) + Chats.dues(x, 5));
        x.carryAll();
        x.block(6, 0, false);
        Check.that("15: told of its own alone", "p 3.0 6 to 0; probe 3.0 to 0; ", Chats.linked(x, 1));
        x.carryAll();
        x.pull(0, 99);
        Check.that("15: seen", "6", x.sees(0, 6));
        Check.that("15: seen", "8", x.sees(0, 8));
        x.unavailable(0);
        x.available(0, 0);
        x.carry(0, 99);
        Check.that("9: answers of its own alone", "p 3.0 6 to 0.0; p 4.0 8 to 0.0; ", Chats.linked(x, 1));
        x.carryAll();
        x.unsubscribe(0, 3);
        x.pull(0, 99);
        Check.that("12: forgotten", "-", x.sees(0, 6));
        Check.that("12: the other is not forgotten", "8", x.sees(0, 8));
    }

    private static void probeOfTheFirst() {
        Twinchat x = Chats.logged(0, 2);
        Chats.befriend(x, 2, 0);
        x.available(0, 7);
        x.available(2, 1);
        Check.that("9: USER 0 is asked too", "begin; p 0.0 7; ", Chats.dues(x, 2));
    }

    /** What comes as an answer to a probe is for the one RESOURCE that asked. */
    private static void probes() {
        Twinchat x = Chats.logged(0, 1, 6, 7);
        Chats.befriend(x, 0, 6);
        x.available(6, 2);
        x.available(7, -4);
        x.carryAll();
        x.available(0, 0);
        x.carryAll();
        x.available(1, 0);
        Check.that("9: probe", "probe 0.1 to 3; ", Chats.linked(x, 0));
        x.carry(0, 1);
        Check.that("9: answers", "p 3.0 2 to 0.1; p 3.1 -4 to 0.1; ", Chats.linked(x, 1));
        x.unavailable(1);
        x.carry(1, 1);
        Check.that("9: not if it is not available", "begin; ", Chats.dues(x, 1));
        x.available(1, 0);
        x.carry(1, 1);
        Check.that("9: to that alone", "begin; begin; p 3.1 -4; ", Chats.dues(x, 1));
        Check.that("9: not to the other", "begin; p 3.0 2; p 3.1 -4; ", Chats.dues(x, 0));
        x.carryAll();
        Check.that("9: sound", true, x.isSound());
    }
}
