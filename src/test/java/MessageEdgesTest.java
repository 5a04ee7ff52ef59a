/** The boundary cases of section 3 and of promise 16, a test for each sentence that names one. */
public final class MessageEdgesTest {
    private MessageEdgesTest() {
    }

    public static void main(String[] args) {
        numbersFromOne();
        whichLeastAndGreatest();
        firstAndLastUser();
        refusedTakesNoNumber();
        refusedOfItsOwnBlockAlone();
        resourceThatIsOn();
        resourceThatIsBroken();
        resourceThatIsOff();
        resourceBelowZero();
        resourceOfOneThatBlocks();
        userWithNobody();
        userBelowZero();
        userAtZero();
        userOfSeveralTheFirst();
        userTheGreatest();
        userOneBelowZero();
        userOfOneThatBlocks();
        fifthAndSixth();
        fullOfEachUser();
        placeAgain();
        blockedGoesAheadOfFull();
        bounceToOneThatIsOff();
        bounceToOneThatIsNotAvailable();
        bounceToOneThatIsBroken();
        bouncedAsItIsMade();
        blockedWhileOnTheLink();
        goesAsTheReceiverIsThen();
        System.exit(Check.closed("MessageEdgesTest"));
    }

    /** "A MESSAGE with the next number (from 1 on, over all)". */
    private static void numbersFromOne() {
        Twinchat x = Chats.logged(0, 11);
        Check.that("16: none yet", 0, x.house(0));
        Check.that("16: the first", 1, x.send(0, 1, -1));
        Check.that("16: over all", 2, x.send(11, 0, 0));
        Check.that("16: the next", 3, x.send(0, 5, 1));
        Check.that("16: sent", 3, x.house(0));
        Check.that("16: who sent it", 11, x.fate(2, 0));
    }

    /** "which: 0 or 1: to that RESOURCE of it; NONE: to the USER". */
    private static void whichLeastAndGreatest() {
        Twinchat x = Chats.logged(0);
        x.send(0, 4, -1);
        x.send(0, 4, 0);
        x.send(0, 4, 1);
        Check.that("16: to whom", "m 1 0.0 to 4; m 2 0.0 to 4.0; m 3 0.0 to 4.1; ", Chats.linked(x, 0));
    }

    private static void firstAndLastUser() {
        Twinchat x = Chats.logged(1, 10);
        Check.that("16: to the last", 1, x.send(1, 5, 1));
        Check.that("16: text", "m 1 0.1 to 5.1; ", Chats.linked(x, 0));
        Check.that("16: to the first", 2, x.send(10, 0, 0));
        Check.that("16: text", "m 2 5.0 to 0.0; ", Chats.linked(x, 1));
        x.carryAll();
        Check.that("16: stored of the last", 1, x.stored(5, 0));
        Check.that("16: stored of the first", 2, x.stored(0, 0));
    }

    /** "REFUSED if u BLOCKS v": for the USER and for both RESOURCES; there is no MESSAGE then. */
    private static void refusedTakesNoNumber() {
        Twinchat x = Chats.logged(0, 2);
        x.block(0, 1, true);
        for (int which = -1; which <= 1; which++) Check.that("16: which " + which, -9, x.send(0, 1, which));
        Check.that("16: none was sent", 0, x.house(0));
        Check.that("16: no such", -2, x.fate(1, 0));
        x.block(0, 1, false);
        Check.that("16: the first", 1, x.send(0, 1, -1));
    }

    private static void refusedOfItsOwnBlockAlone() {
        Twinchat x = Chats.logged(0, 2);
        x.block(0, 2, true);
        x.block(2, 0, true);
        Check.that("16: another one is blocked, and the other blocks", 1, x.send(0, 1, 0));
        Check.that("16: not refused", 0, x.house(8));
    }

    /** "otherwise, if its stream is not OFF: PUT to it": ON, AVAILABLE or not. */
    private static void resourceThatIsOn() {
        Twinchat x = Chats.logged(0, 2, 3);
        x.available(3, 9);
        x.send(0, 1, 0);
        Check.that("16: not available", "m 1 0.0; ", Chats.dues(x, 2));
        Check.that("16: not to the greatest priority", "begin; ", Chats.dues(x, 3));
    }

    private static void resourceThatIsBroken() {
        Twinchat x = Chats.logged(0, 2, 3);
        x.available(3, 9);
        x.breaks(2);
        x.send(0, 1, 0);
        Check.that("16: broken is not off", "m 1 0.0; ", Chats.dues(x, 2));
    }

    /** "otherwise as if it came to its USER": put to the other one; STORED; BOUNCED. */
    private static void resourceThatIsOff() {
        Twinchat x = Chats.logged(0, 3);
        x.available(3, 0);
        x.send(0, 1, 0);
        Check.that("16: to the other one", "begin; m 1 0.0; ", Chats.dues(x, 3));
        x.available(3, -1);
        for (int k = 1; k <= 5; k++) x.send(0, 1, 0);
        Check.that("16: stored", 6, x.stored(1, 4));
        x.send(0, 1, 0);
        Check.that("16: full", "b 7 full; ", Chats.dues(x, 0));
        Check.that("16: none into the one that is off", 0, x.ofStream(2, 1));
    }

    /** To a RESOURCE its PRIORITY does not matter. */
    private static void resourceBelowZero() {
        Twinchat x = Chats.logged(0, 2);
        x.available(2, -5);
        x.send(0, 1, 0);
        Check.that("16: put", "begin; m 1 0.0; ", Chats.dues(x, 2));
        Check.that("16: not stored", -1, x.stored(1, 0));
    }

    /** "if its USER BLOCKS that of r: BOUNCED ("unavailable")": ahead of PUT and of STORED. */
    private static void resourceOfOneThatBlocks() {
        Twinchat x = Chats.logged(0, 2);
        x.available(2, 0);
        x.block(2, 0, true);
        x.send(0, 1, 0);
        x.send(0, 1, 1);
        Check.that("16: on, off", "b 1 unavailable; b 2 unavailable; ", Chats.dues(x, 0));
        Check.that("16: not put", "begin; forget 0; ", Chats.dues(x, 2));
        Check.that("16: not stored", -1, x.stored(1, 0));
        Check.that("16: not refused", 0, x.house(8));
    }

    /** "without one STORED": all are OFF; one is ON and not AVAILABLE. */
    private static void userWithNobody() {
        Twinchat x = Chats.logged(0, 4);
        x.send(0, 1, -1);
        Check.that("16: all are off", 1, x.stored(1, 0));
        x.send(0, 2, -1);
        Check.that("16: on, not available", 2, x.stored(2, 0));
        Check.that("16: not put", "", Chats.dues(x, 4));
        Check.that("16: fate", 1, x.fate(2, 3));
    }

    /** "that is not below 0": -1 is. */
    private static void userBelowZero() {
        Twinchat x = Chats.logged(0, 2, 3);
        x.available(2, -1);
        x.available(3, -5);
        x.send(0, 1, -1);
        Check.that("16: stored", 1, x.stored(1, 0));
        Check.that("16: not put", "begin; begin; ", Chats.dues(x, 2) + Chats.dues(x, 3));
    }

    /** "that is not below 0": 0 is not. */
    private static void userAtZero() {
        for (int r = 2; r <= 3; r++) {
            Twinchat x = Chats.logged(0, r);
            x.available(r, 0);
            x.send(0, 1, -1);
            Check.that("16: put", "begin; m 1 0.0; ", Chats.dues(x, r));
            Check.that("16: not stored", -1, x.stored(1, 0));
        }
    }

    /** "(of several the first)": of the same PRIORITY, whichever came first. */
    private static void userOfSeveralTheFirst() {
        for (int priority : new int[] {0, 9}) {
            Twinchat x = Chats.logged(0, 2, 3);
            x.available(3, priority);
            x.available(2, priority);
            x.send(0, 1, -1);
            Check.that("16: the first", "begin; m 1 0.0; ", Chats.dues(x, 2));
            Check.that("16: not the other", "begin; ", Chats.dues(x, 3));
        }
    }

    private static void userTheGreatest() {
        Twinchat x = Chats.logged(0, 2, 3);
        x.available(2, 8);
        x.available(3, 9);
        x.send(0, 1, -1);
        Check.that("16: the second is greater", "begin; m 1 0.0; ", Chats.dues(x, 3));
        x.available(3, 7);
        x.send(0, 1, -1);
        Check.that("16: the first is greater", "begin; m 2 0.0; ", Chats.dues(x, 2));
    }

    private static void userOneBelowZero() {
        Twinchat x = Chats.logged(0, 2, 3);
        x.available(2, -1);
        x.available(3, 0);
        x.send(0, 1, -1);
        Check.that("16: the one that is not", "begin; m 1 0.0; ", Chats.dues(x, 3));
        x.unavailable(3);
        x.send(0, 1, -1);
        Check.that("16: then none", 2, x.stored(1, 0));
    }

    private static void userOfOneThatBlocks() {
        Twinchat x = Chats.logged(0, 2);
        x.block(2, 0, true);
        x.send(0, 1, -1);
        Check.that("16: nobody is available", "b 1 unavailable; ", Chats.dues(x, 0));
        Check.that("16: not stored", -1, x.stored(1, 0));
        x.available(2, 9);
        x.send(0, 1, -1);
        Check.that("16: somebody is", "b 1 unavailable; b 2 unavailable; ", Chats.dues(x, 0));
        Check.that("16: not put", "begin; ", Chats.dues(x, 2));
    }

    /** "STORED, if less than 5 are STORED of v; otherwise BOUNCED ("full")". */
    private static void fifthAndSixth() {
        Twinchat x = Chats.logged(0, 4);
        Chats.send(x, 0, 1, -1, 4);
        Check.that("16: four", -1, x.stored(1, 4));
        x.send(4, 1, -1);
        Check.that("16: the fifth", 5, x.stored(1, 4));
        Check.that("16: nothing is bounced", 0, x.house(2));
        x.send(4, 1, -1);
        Check.that("16: the sixth", "b 6 full; ", Chats.dues(x, 4));
        Check.that("16: bounced", 1, x.fate(6, 2));
        Check.that("16: not stored", 0, x.fate(6, 3));
        Check.that("16: the fifth stays", 1, x.fate(5, 3));
        Check.that("16: sound", true, x.isSound());
    }

    /** "of v": each USER has five of its own, the first and the last. */
    private static void fullOfEachUser() {
        Twinchat x = Chats.logged(2, 8);
        for (int user : new int[] {0, 5, 2, 3}) {
            int before = x.house(0);
            Chats.send(x, 2, user, -1, 6);
            x.carryAll();
            for (int k = 0; k < 5; k++) Check.that("16: stored of " + user, before + k + 1, x.stored(user, k));
            Check.that("16: the sixth of " + user, 1, x.fate(before + 6, 2));
        }
        Check.that("16: one bounced of each", 4, x.house(2));
    }

    /** Behind that one was AVAILABLE there is place for five again. */
    private static void placeAgain() {
        for (int user : new int[] {0, 5}) {
            Twinchat x = Chats.logged(2, 2 * user);
            Chats.send(x, 2, user, -1, 6);
            x.carryAll();
            x.available(2 * user, 0);
            x.unavailable(2 * user);
            Chats.send(x, 2, user, -1, 6);
            x.carryAll();
            Check.that("16: the first", 7, x.stored(user, 0));
            Check.that("16: the fifth", 11, x.stored(user, 4));
            Check.that("16: the sixth", 1, x.fate(12, 2));
            Check.that("16: bounced", 2, x.house(2));
        }
    }

    private static void blockedGoesAheadOfFull() {
        Twinchat x = Chats.logged(0, 2);
        Chats.send(x, 0, 1, -1, 5);
        x.block(2, 0, true);
        x.send(0, 1, -1);
        Check.that("16: why", "b 6 unavailable; ", Chats.dues(x, 0));
        Check.that("16: what was stored stays", 5, x.stored(1, 4));
    }

    /** "as that comes, it is PUT, if its stream is not OFF". */
    private static void bounceToOneThatIsOff() {
        Twinchat x = Chats.logged(0, 1, 6);
        x.available(1, 9);
        x.block(6, 0, true);
        x.send(0, 3, 0);
        x.logout(0);
        x.carryAll();
        Check.that("16: not put", 0, x.ofStream(0, 1));
        Check.that("16: nor to its other one", "begin; ", Chats.dues(x, 1));
        Check.that("16: bounced all the same", 1, x.fate(1, 2));
        Check.that("16: sound", true, x.isSound());
    }

    private static void bounceToOneThatIsNotAvailable() {
        Twinchat x = Chats.logged(0, 1, 6);
        x.available(1, 9);
        x.block(6, 0, true);
        x.send(0, 3, 0);
        x.carryAll();
        Check.that("16: to the one that sent it", "b 1 unavailable; ", Chats.dues(x, 0));
        Check.that("16: not to its other one", "begin; ", Chats.dues(x, 1));
    }

    private static void bounceToOneThatIsBroken() {
        Twinchat x = Chats.logged(0, 6);
        x.block(6, 0, true);
        x.send(0, 3, 0);
        x.breaks(0);
        x.carryAll();
        Check.that("16: broken is not off", "b 1 unavailable; ", Chats.dues(x, 0));
    }

    /** It is BOUNCED as the STANZA is made, not as it comes. */
    private static void bouncedAsItIsMade() {
        Twinchat x = Chats.logged(0, 6);
        x.block(6, 0, true);
        x.send(0, 3, 0);
        Check.that("16: on the link it is not", 0, x.fate(1, 2));
        x.carry(0, 1);
        Check.that("16: then it is", 1, x.fate(1, 2));
        Check.that("16: counted", 1, x.house(2));
        Check.that("16: the bounce is on the link", "b 1 unavailable to 0.0; ", Chats.linked(x, 1));
        Check.that("16: sound", true, x.isSound());
        x.carryAll();
        Check.that("16: counted once", 1, x.house(2));
    }

    private static void blockedWhileOnTheLink() {
        Twinchat x = Chats.logged(0, 6);
        x.send(0, 3, 0);
        x.block(6, 0, true);
        x.carryAll();
        Check.that("16: as it comes it is blocked", "b 1 unavailable; ", Chats.dues(x, 0));
        // who sent it may BLOCK by then: that one has its bounce
        x.send(0, 3, 0);
        x.block(0, 3, true);
        x.carryAll();
        Check.that("16: the bounce comes all the same", "b 1 unavailable; b 2 unavailable; ", Chats.dues(x, 0));
    }

    private static void goesAsTheReceiverIsThen() {
        Twinchat x = Chats.logged(0, 6, 7);
        x.send(0, 3, 0);
        x.send(0, 3, -1);
        x.logout(6);
        x.available(7, 0);
        x.carryAll();
        Check.that("16: off by then, available by then", "begin; m 1 0.0; m 2 0.0; ", Chats.dues(x, 7));
    }
}
