/** The boundary cases of section 2 and of promises 9 to 15, a test for each sentence that names one. */
public final class PresenceEdgesTest {
    private PresenceEdgesTest() {
    }

    public static void main(String[] args) {
        leastAndGreatestPriority();
        beginOfOneThatWasNot();
        noBeginOfOneThatWas();
        beginAgainBehindUnavailable();
        toldToSubscribedAlone();
        toldToFirstAndLast();
        probedOfSubscribedAlone();
        probedFirstAndLast();
        noProbeOfOneThatWas();
        toldInSpiteOfTheOthersBlock();
        storedBelowZero();
        storedAtZero();
        storedNone();
        storedFive();
        storedOfBlocked();
        storedOfBlockedAlone();
        storedBehindWhatIsTold();
        storedThoughItWasAvailable();
        storedThoughTheOtherIsGreater();
        storedBehindBegin();
        unavailableTellsPriorityBefore();
        unavailableToldAsAvailable();
        subscribeTakesTheNextNumber();
        subscribeOfOneThatBlocks();
        askToNobodyAvailable();
        askToEachAvailable();
        askToOneThatBlocks();
        askBehindADenial();
        approveWithNobodyAvailable();
        approveToOneThatIsBlocked();
        approveNeitherNothingNorSubscribed();
        denyOfAsked();
        denyOfSubscribed();
        denyThough();
        yesWithItsNumber();
        yesWithAnOlderNumber();
        yesToNothing();
        noWithItsNumber();
        noWithAnOlderNumber();
        noToNothing();
        unsubscribeOfAsked();
        unsubscribeOfSubscribed();
        endWithItsNumber();
        endToNothing();
        blockOne();
        blockFive();
        blockOfNobodyAvailable();
        blockTellsSubscribedAlone();
        blockChangesNoBond();
        unblockOfNobodyAvailable();
        unblockTellsAndAsks();
        unblockOneByOne();
        presenceToUserAsked();
        presenceToUserNothing();
        presenceToUserBlocking();
        presenceToEachAvailable();
        presenceToResource();
        presenceToResourceBlocking();
        presenceToResourceNoLonger();
        probeOfNothing();
        probeOfOneThatBlocks();
        probeOfNobodyAvailable();
        probeOfBoth();
        brokenHasAll();
        firstAndLastUser();
        System.exit(Check.closed("PresenceEdgesTest"));
    }

    private static int counted(Twinchat x) {
        return x.house(8);
    }

    /** "with a PRIORITY (-5 to 9)". */
    private static void leastAndGreatestPriority() {
        for (int priority : new int[] {-5, -4, -1, 0, 1, 8, 9}) {
            Twinchat x = Chats.logged(0, 6);
            Chats.befriend(x, 6, 0);
            Check.that("9: right", 0, x.available(0, priority));
            Check.that("9: priority", priority, x.ofStream(0, 6));
            Check.that("9: available", 1, x.ofStream(0, 5));
            Check.that("9: as a text", "p 0.0 " + priority + " to 3; ", Chats.linked(x, 0));
        }
    }

    /** "if it was not AVAILABLE: "begin" is PUT to it": with no friends too. */
    private static void beginOfOneThatWasNot() {
        Twinchat x = Chats.logged(0, 1);
        x.available(0, 0);
        Check.that("9: begin", "begin; ", Chats.dues(x, 0));
        Check.that("9: not to its other one", "", Chats.dues(x, 1));
        x.available(1, 0);
        Check.that("9: each its own", "begin; ", Chats.dues(x, 1));
        Check.that("9: once", "begin; ", Chats.dues(x, 0));
    }

    private static void noBeginOfOneThatWas() {
        Twinchat x = Chats.logged(0);
        x.available(0, -1);
        x.available(0, 3);
        Check.that("9: no second begin", "begin; ", Chats.dues(x, 0));
        x.available(0, 3);
        Check.that("9: nor with the same priority", "begin; ", Chats.dues(x, 0));
    }

    private static void beginAgainBehindUnavailable() {
        Twinchat x = Chats.logged(0);
        x.available(0, 1);
        x.unavailable(0);
        x.available(0, 1);
        Check.that("9: begin anew", "begin; begin; ", Chats.dues(x, 0));
    }

    /** "for each v whom u is FROM SUBSCRIBED, and does not BLOCK". */
    private static void toldToSubscribedAlone() {
        Twinchat x = Chats.logged(0, 6, 8, 10);
        Chats.befriend(x, 6, 0);
        Chats.befriend(x, 8, 0);
        x.subscribe(10, 0);
        x.carryAll();
        x.block(0, 4, true);
        x.available(0, 2);
        Check.that("9: neither asked nor blocked", "p 0.0 2 to 3; ", Chats.linked(x, 0));
        x.carryAll();
        x.block(0, 4, false);
        x.carryAll();
        x.available(0, 3);
        Check.that("9: blocked no more", "p 0.0 3 to 3; p 0.0 3 to 4; ", Chats.linked(x, 0));
        x.deny(0, 3);
        x.carryAll();
        x.available(0, 4);
        Check.that("9: denied", "p 0.0 4 to 4; ", Chats.linked(x, 0));
    }

    /** The first USER and the last are told, by their numbers. */
    private static void toldToFirstAndLast() {
        Twinchat x = Chats.logged(0, 2, 4, 6, 8, 10);
        for (int r = 0; r < 12; r += 2) if (r != 6) Chats.befriend(x, r, 6);
        for (int r = 0; r < 12; r += 2) if (r != 6) x.available(r, 0);
        x.carryAll();
        Chats.pullAll(x);
        x.available(6, 7);
        Check.that("9: over the link", "p 3.0 7 to 0; p 3.0 7 to 1; p 3.0 7 to 2; ", Chats.linked(x, 1));
        Check.that("9: the last", "p 3.0 7; ", Chats.dues(x, 10));
        x.carryAll();
        Check.that("9: the first", "p 3.0 7; ", Chats.dues(x, 0));
    }

    /** "for each v TO whom u is SUBSCRIBED, and whom it does not BLOCK: "probe r"". */
    private static void probedOfSubscribedAlone() {
        Twinchat x = Chats.logged(0, 6, 8, 10);
        Chats.befriend(x, 0, 6);
        Chats.befriend(x, 0, 8);
        x.subscribe(0, 5);
        x.carryAll();
        x.block(0, 4, true);
        x.available(0, 2);
        Check.that("9: neither asked nor blocked", "probe 0.0 to 3; ", Chats.linked(x, 0));
    }

    private static void probedFirstAndLast() {
        Twinchat x = Chats.logged(0, 2, 4, 6, 8, 10);
        for (int r = 0; r < 12; r += 2) if (r != 6) Chats.befriend(x, 6, r);
        x.available(10, 9);
        x.available(6, 7);
        Check.that("9: over the link", "probe 3.0 to 0; probe 3.0 to 1; probe 3.0 to 2; ", Chats.linked(x, 1));
        Check.that("9: the last answers", "begin; p 5.0 9; ", Chats.dues(x, 6));
    }

    /** "If it was not AVAILABLE: .. "probe r"": otherwise none. */
    private static void noProbeOfOneThatWas() {
        Twinchat x = Chats.logged(0, 1, 6);
        Chats.befriend(x, 0, 6);
        x.available(0, 0);
        x.carryAll();
        x.available(0, 1);
        Check.that("9: none", "", Chats.linked(x, 0));
        x.available(1, 1);
        Check.that("9: its other one was not", "probe 0.1 to 3; ", Chats.linked(x, 0));
    }

    /** "does not BLOCK it": that v BLOCKS u does not matter to what u tells. */
    private static void toldInSpiteOfTheOthersBlock() {
        Twinchat x = Chats.logged(0, 6);
        Chats.befriend(x, 0, 6);
        Chats.befriend(x, 6, 0);
        x.block(6, 0, true);
        x.available(0, 1);
        Check.that("9: told and asked", "p 0.0 1 to 3; probe 0.0 to 3; ", Chats.linked(x, 0));
        x.unavailable(0);
        Check.that("10: told", "p 0.0 1 to 3; probe 0.0 to 3; p 0.0 off to 3; ", Chats.linked(x, 0));
    }

    /** "If P is not below 0": -1 is. */
    private static void storedBelowZero() {
        Twinchat x = Chats.logged(0, 2);
        x.send(0, 1, -1);
        Check.that("9: -1", 0, x.available(2, -1));
        Check.that("9: stored still", 1, x.stored(1, 0));
        Check.that("9: not put", "begin; ", Chats.dues(x, 2));
    }

    /** "If P is not below 0": 0 is not. */
    private static void storedAtZero() {
        Twinchat x = Chats.logged(0, 2);
        x.send(0, 1, -1);
        Check.that("9: 0", 1, x.available(2, 0));
        Check.that("9: then nothing is stored", -1, x.stored(1, 0));
        Check.that("9: put", "begin; m 1 0.0; ", Chats.dues(x, 2));
        Check.that("9: not received yet", -1, x.fate(1, 1));
    }

    private static void storedNone() {
        Twinchat x = Chats.logged(0, 2, 3);
        Check.that("9: nothing is stored", 0, x.available(2, 9));
        x.send(0, 1, -1);
        Check.that("9: what was put is not stored", 0, x.available(3, 9));
    }

    private static void storedFive() {
        Twinchat x = Chats.logged(0, 2);
        Chats.send(x, 0, 1, -1, 5);
        Check.that("9: five", 5, x.available(2, 0));
        Check.that("9: as they were stored", "begin; m 1 0.0; m 2 0.0; m 3 0.0; m 4 0.0; m 5 0.0; ", Chats.dues(x, 2));
        for (int k = 0; k < 5; k++) Check.that("9: nothing is stored", -1, x.stored(1, k));
        Check.that("9: again", 0, x.available(2, 0));
        x.unavailable(2);
        Chats.send(x, 0, 1, -1, 5);
        Check.that("9: five have place anew", 10, x.stored(1, 4));
    }

    /** "one of a USER whom u BLOCKS is BOUNCED ("unavailable") instead"; "(those BOUNCED not counted)". */
    private static void storedOfBlocked() {
        Twinchat x = Chats.logged(0, 2, 6);
        x.send(0, 1, -1);
        x.send(6, 1, -1);
        x.carryAll();
        x.send(0, 1, -1);
        x.block(2, 3, true);
        Check.that("9: two of three", 2, x.available(2, 0));
        Check.that("9: those", "begin; m 1 0.0; m 3 0.0; ", Chats.dues(x, 2));
        Check.that("9: bounced over the link", "b 2 unavailable to 3.0; ", Chats.linked(x, 0));
        Check.that("9: bounced at once", 1, x.fate(2, 2));
    }

    private static void storedOfBlockedAlone() {
        Twinchat x = Chats.logged(0, 2);
        Chats.send(x, 0, 1, -1, 5);
        x.block(2, 0, true);
        Check.that("9: none", 0, x.available(2, 0));
        Check.that("9: then nothing is stored", -1, x.stored(1, 0));
        Check.that("9: all are bounced", 5, x.house(2));
        Check.that("9: sound", true, x.isSound());
    }

    /** "Then .. Then ..": what is BOUNCED of the STORED goes behind "p r P" and "probe r". */
    private static void storedBehindWhatIsTold() {
        Twinchat x = Chats.logged(0, 6, 8);
        Chats.befriend(x, 8, 0);
        Chats.befriend(x, 0, 8);
        x.send(6, 0, -1);
        x.carryAll();
        x.block(0, 3, true);
        Check.that("9: the only one STORED is bounced", 0, x.available(0, 1));
        Check.that("9: the bounce is last", "p 0.0 1 to 4; probe 0.0 to 4; b 1 unavailable to 3.0; ", Chats.linked(x, 0));
    }

    private static void storedThoughItWasAvailable() {
        Twinchat x = Chats.logged(0, 2);
        x.available(2, -5);
        x.send(0, 1, -1);
        Check.that("9: by another priority", 1, x.available(2, 0));
        Check.that("9: put", "begin; m 1 0.0; ", Chats.dues(x, 2));
    }

    /** "all that is STORED of u is PUT to it": whatever the other RESOURCE is. */
    private static void storedThoughTheOtherIsGreater() {
        Twinchat x = Chats.logged(0, 2, 3);
        x.available(3, -2);
        x.send(0, 1, -1);
        x.breaks(3);
        Check.that("9: to that one", 1, x.available(2, 0));
        Check.that("9: not to the other", "begin; ", Chats.dues(x, 3));
        // nothing can be STORED while one takes it: so this is the nearest that there is
        Check.that("9: nothing is stored", -1, x.stored(1, 0));
    }

    /** "begin" goes ahead of all; what friends at the same SERVER answer comes behind what was STORED. */
    private static void storedBehindBegin() {
        Twinchat x = Chats.logged(0, 2);
        Chats.befriend(x, 2, 0);
        x.available(0, 6);
        x.send(0, 1, -1);
        x.available(2, 0);
        Check.that("9: begin, stored, answers", "begin; m 1 0.0; p 0.0 6; ", Chats.dues(x, 2));
    }

    /** "Returns its PRIORITY before": the smallest, one that is as NONE, the greatest. */
    private static void unavailableTellsPriorityBefore() {
        for (int priority : new int[] {-5, -1, 0, 9}) {
            Twinchat x = Chats.logged(0);
            x.available(0, 3);
            x.available(0, priority);
            Check.that("10: before", priority, x.unavailable(0));
            Check.that("10: not available", 0, x.ofStream(0, 5));
            Check.that("10: no priority", -1, x.ofStream(0, 6));
            Check.that("10: is not refused", 0, counted(x));
        }
    }

    /** "for each v as above: "p r off" to v". */
    private static void unavailableToldAsAvailable() {
        Twinchat x = Chats.logged(0, 1, 6, 8, 10);
        Chats.befriend(x, 6, 0);
        Chats.befriend(x, 8, 0);
        Chats.befriend(x, 0, 10);
        x.subscribe(10, 0);
        x.available(0, 2);
        x.available(1, 3);
        x.carryAll();
        x.block(0, 4, true);
        x.carryAll();
        x.unavailable(0);
        Check.that("10: to the subscribed one alone", "p 0.0 off to 3; ", Chats.linked(x, 0));
        Check.that("10: its other one is", 1, x.ofStream(1, 5));
    }

    /** "with the next number of ASKS (from 1 on, over all)". */
    private static void subscribeTakesTheNextNumber() {
        Twinchat x = Chats.logged(0, 11);
        Check.that("11: no ask yet", 0, x.house(7));
        Check.that("11: the first", 1, x.subscribe(0, 5));
        Check.that("11: over all", 2, x.subscribe(11, 0));
        Check.that("11: refused", -9, x.subscribe(0, 5));
        Check.that("11: that took no number", 3, x.subscribe(0, 1));
        Check.that("11: all", 3, x.house(7));
        x.unsubscribe(0, 1);
        Check.that("11: a number is not used again", 4, x.subscribe(0, 1));
        Check.that("11: the later one", 4, x.asked(0, 1, true));
        Check.that("11: of from too", 4, x.asked(1, 0, false));
    }

    /** "REFUSED if u BLOCKS v": not if v BLOCKS u, or another one of u is BLOCKED. */
    private static void subscribeOfOneThatBlocks() {
        Twinchat x = Chats.logged(0, 2, 4);
        x.block(0, 2, true);
        x.block(2, 0, true);
        Check.that("11: another one is blocked", 1, x.subscribe(0, 1));
        Check.that("11: no came at once", 0, x.to(0, 1));
        Check.that("11: blocked", -9, x.subscribe(0, 2));
        x.block(0, 2, false);
        Check.that("11: no more", 2, x.subscribe(0, 2));
    }

    /** "it is PUT to each AVAILABLE RESOURCE of v": there is none, and still v is FROM u ASKED. */
    private static void askToNobodyAvailable() {
        Twinchat x = Chats.logged(0, 2);
        x.subscribe(0, 1);
        Check.that("11: on, not available", "", Chats.dues(x, 2));
        Check.that("11: asked", 1, x.from(1, 0));
        x.subscribe(0, 2);
        Check.that("11: off", 1, x.from(2, 0));
        Check.that("11: not put", 0, x.ofStream(4, 1));
        x.available(2, 0);
        Check.that("11: nor later", "begin; ", Chats.dues(x, 2));
    }

    private static void askToEachAvailable() {
        Twinchat x = Chats.logged(0, 1, 2, 3, 5);
        x.available(2, -5);
        x.available(3, 9);
        x.available(1, 1);
        x.available(5, 1);
        x.subscribe(0, 1);
        Check.that("11: the one", "begin; ask 1 0; ", Chats.dues(x, 2));
        Check.that("11: the other", "begin; ask 1 0; ", Chats.dues(x, 3));
        Check.that("11: none of another user", "begin; begin; ", Chats.dues(x, 1) + Chats.dues(x, 5));
    }

    /** "if v BLOCKS u: STANZA "no n v" to u": then u is TO v NOTHING, v FROM u stays NOTHING. */
    private static void askToOneThatBlocks() {
        Twinchat x = Chats.logged(0, 2);
        x.block(2, 0, true);
        x.available(0, 0);
        x.available(2, 0);
        Check.that("11: it has a number", 1, x.subscribe(0, 1));
        Check.that("11: no", "begin; no 1 1; ", Chats.dues(x, 0));
        Check.that("11: not put", "begin; ", Chats.dues(x, 2));
        Check.that("11: from", 0, x.from(1, 0));
        Check.that("11: of from without", -1, x.asked(1, 0, false));
        Check.that("11: to", 0, x.to(0, 1));
        Check.that("11: of to without", -1, x.asked(0, 1, true));
        Check.that("11: one can ask again", 2, x.subscribe(0, 1));
    }

    private static void askBehindADenial() {
        Twinchat x = Chats.logged(0, 6);
        x.subscribe(0, 3);
        x.carryAll();
        x.deny(6, 0);
        x.carryAll();
        Check.that("11: nothing, so one can", 2, x.subscribe(0, 3));
        x.carryAll();
        Check.that("11: asked anew", 1, x.from(3, 0));
        Check.that("11: with the later number", 2, x.asked(3, 0, false));
    }

    /** "for each AVAILABLE RESOURCE s of u": none; one; both, by number. */
    private static void approveWithNobodyAvailable() {
        String[] told = {"", "p 3.1 7 to 0; ", "p 3.0 -5 to 0; p 3.1 7 to 0; "};
        for (int many = 0; many <= 2; many++) {
            Twinchat x = Chats.logged(0, 6, 7);
            if (many > 0) x.available(7, 7);
            if (many > 1) x.available(6, -5);
            x.subscribe(0, 3);
            x.carryAll();
            x.approve(6, 0);
            Check.that("13: " + many + " are available", "yes 1 3 to 0; " + told[many], Chats.linked(x, 1));
        }
    }

    /** "(unless u BLOCKS w)": the "yes" goes all the same; that w BLOCKS u does not matter. */
    private static void approveToOneThatIsBlocked() {
        Twinchat x = Chats.logged(0, 6);
        x.available(6, 1);
        x.subscribe(0, 3);
        x.carryAll();
        x.block(6, 0, true);
        Check.that("13: the number", 1, x.approve(6, 0));
        Check.that("13: yes alone", "yes 1 3 to 0; ", Chats.linked(x, 1));
        Twinchat y = Chats.logged(0, 6);
        y.available(6, 1);
        y.subscribe(0, 3);
        y.block(0, 3, true);
        y.carryAll();
        y.approve(6, 0);
        Check.that("13: blocked the other way", "yes 1 3 to 0; p 3.0 1 to 0; ", Chats.linked(y, 1));
        y.available(0, 0);
        y.carryAll();
        Check.that("13: yes is put, presence is not", "begin; yes 1 3; ", Chats.dues(y, 0));
        Check.that("13: subscribed", 2, y.to(0, 3));
    }

    /** "REFUSED if u is not FROM w ASKED". */
    private static void approveNeitherNothingNorSubscribed() {
        Twinchat x = Chats.logged(0, 6);
        x.subscribe(6, 0);
        x.carryAll();
        Check.that("13: nothing, it is TO that asked", -9, x.approve(6, 0));
        Check.that("13: asked", 1, x.approve(0, 3));
        Check.that("13: subscribed", -9, x.approve(0, 3));
        x.deny(0, 3);
        Check.that("13: nothing again", -9, x.approve(0, 3));
        Check.that("13: counted", 3, counted(x));
    }

    private static void denyOfAsked() {
        Twinchat x = Chats.logged(0, 6);
        x.available(6, 1);
        x.subscribe(0, 3);
        x.carryAll();
        Check.that("14: asked", 1, x.deny(6, 0));
        Check.that("14: from", 0, x.from(3, 0));
        Check.that("14: no alone", "no 1 3 to 0; ", Chats.linked(x, 1));
        x.available(6, 2);
        Check.that("14: nothing more is told", "no 1 3 to 0; ", Chats.linked(x, 1));
    }

    private static void denyOfSubscribed() {
        Twinchat x = Chats.logged(0, 6);
        x.available(6, 1);
        Chats.befriend(x, 0, 6);
        Check.that("14: subscribed", 1, x.deny(6, 0));
        Check.that("14: from", 0, x.from(3, 0));
        Check.that("14: without a number", -1, x.asked(3, 0, false));
        x.carryAll();
        Check.that("14: to", 0, x.to(0, 3));
        Check.that("14: denied already", -9, x.deny(6, 0));
        Check.that("14: counted", 1, counted(x));
    }

    /** A BLOCK does not keep one from it. */
    private static void denyThough() {
        Twinchat x = Chats.logged(0, 6);
        Chats.befriend(x, 0, 6);
        x.block(6, 0, true);
        Check.that("14: blocked", 1, x.deny(6, 0));
        x.carryAll();
        Check.that("14: came", 0, x.to(0, 3));
    }

    /** "if u is TO v ASKED with n: SUBSCRIBED; it is PUT to each AVAILABLE RESOURCE of u". */
    private static void yesWithItsNumber() {
        Twinchat x = Chats.logged(0, 1, 6);
        x.available(1, 0);
        Chats.befriend(x, 0, 6);
        Check.that("13: subscribed", 2, x.to(0, 3));
        Check.that("13: the number stays", 1, x.asked(0, 3, true));
        Check.that("13: put", "begin; yes 1 3; ", Chats.dues(x, 1));
        Check.that("13: not to one that is not available", "", Chats.dues(x, 0));
    }

    /** 0.0 is AVAILABLE, USER 3 is FROM USER 0 ASKED, nothing is on the LINK. */
    private static Twinchat asked() {
        Twinchat x = Chats.logged(0, 6);
        x.available(0, 0);
        x.subscribe(0, 3);
        x.carryAll();
        return x;
    }

    private static void yesWithAnOlderNumber() {
        Twinchat x = asked();
        x.approve(6, 0);
        x.unsubscribe(0, 3);
        x.subscribe(0, 3);
        x.carry(1, 1);
        Check.that("13: asked still", 1, x.to(0, 3));
        Check.that("13: with its number", 2, x.asked(0, 3, true));
        Check.that("13: not put", "begin; forget 3; ", Chats.dues(x, 0));
    }

    private static void yesToNothing() {
        Twinchat x = asked();
        x.approve(6, 0);
        x.unsubscribe(0, 3);
        x.carry(1, 1);
        Check.that("13: nothing", 0, x.to(0, 3));
        Check.that("13: without a number", -1, x.asked(0, 3, true));
        Check.that("13: not put", "begin; forget 3; ", Chats.dues(x, 0));
    }

    /** "if u is TO v more than NOTHING with n: NOTHING; it is PUT likewise": ASKED, SUBSCRIBED. */
    private static void noWithItsNumber() {
        for (boolean isSubscribed : new boolean[] {false, true}) {
            Twinchat x = Chats.logged(0, 1, 6);
            x.subscribe(0, 3);
            x.carryAll();
            if (isSubscribed) x.approve(6, 0);
            x.carryAll();
            x.available(0, 0);
            x.carryAll();
            x.deny(6, 0);
            x.carryAll();
            Check.that("14: nothing", 0, x.to(0, 3));
            Check.that("14: without a number", -1, x.asked(0, 3, true));
            Check.that("14: put", "begin; no 1 3; ", Chats.dues(x, 0));
            Check.that("14: not to one that is not available", "", Chats.dues(x, 1));
        }
    }

    private static void noWithAnOlderNumber() {
        Twinchat x = asked();
        x.deny(6, 0);
        x.unsubscribe(0, 3);
        x.subscribe(0, 3);
        x.carry(1, 1);
        Check.that("14: asked still", 1, x.to(0, 3));
        Check.that("14: with its number", 2, x.asked(0, 3, true));
        Check.that("14: not put", "begin; forget 3; ", Chats.dues(x, 0));
    }

    private static void noToNothing() {
        Twinchat x = asked();
        x.deny(6, 0);
        x.unsubscribe(0, 3);
        x.carryAll();
        Check.that("14: nothing", 0, x.to(0, 3));
        Check.that("14: not put", "begin; forget 3; ", Chats.dues(x, 0));
        Check.that("14: sound", true, x.isSound());
    }

    /** "REFUSED if u is TO v NOTHING": ASKED and SUBSCRIBED are more. */
    private static void unsubscribeOfAsked() {
        Twinchat x = Chats.logged(0, 1, 6);
        x.available(1, 0);
        x.subscribe(0, 3);
        Check.that("12: asked", 1, x.unsubscribe(0, 3));
        Check.that("12: end", "ask 1 0 to 3; end 1 0 to 3; ", Chats.linked(x, 0));
        Check.that("12: to", 0, x.to(0, 3));
        Check.that("12: without a number", -1, x.asked(0, 3, true));
        Check.that("12: forget", "begin; forget 3; ", Chats.dues(x, 1));
        Check.that("12: not to one that is not available", "", Chats.dues(x, 0));
        Check.that("12: nothing", -9, x.unsubscribe(0, 3));
    }

    private static void unsubscribeOfSubscribed() {
        Twinchat x = Chats.logged(0, 1, 6);
        Chats.befriend(x, 0, 6);
        x.available(0, 0);
        x.available(1, 0);
        x.carryAll();
        Check.that("12: subscribed, by its other one", 1, x.unsubscribe(1, 3));
        Check.that("12: forget", "begin; forget 3; begin; forget 3; ", Chats.dues(x, 0) + Chats.dues(x, 1));
        Check.that("12: to", 0, x.to(0, 3));
    }

    /** "if v is FROM u more than NOTHING with n: NOTHING": ASKED, SUBSCRIBED. */
    private static void endWithItsNumber() {
        for (boolean isSubscribed : new boolean[] {false, true}) {
            Twinchat x = Chats.logged(0, 6);
            x.available(6, 0);
            x.subscribe(0, 3);
            x.carryAll();
            if (isSubscribed) x.approve(6, 0);
            x.carryAll();
            x.unsubscribe(0, 3);
            Check.that("12: not yet", isSubscribed ? 2 : 1, x.from(3, 0));
            x.carryAll();
            Check.that("12: nothing", 0, x.from(3, 0));
            Check.that("12: without a number", -1, x.asked(3, 0, false));
            Check.that("12: end is not put", "begin; ask 1 0; ", Chats.dues(x, 6));
        }
    }

    private static void endToNothing() {
        Twinchat x = Chats.logged(0, 6);
        x.subscribe(0, 3);
        x.carryAll();
        x.unsubscribe(0, 3);
        x.deny(6, 0);
        x.carryAll();
        Check.that("12: nothing", 0, x.from(3, 0));
        Check.that("12: and to", 0, x.to(0, 3));
        Check.that("12: sound", true, x.isSound());
    }

    /** "Returns how many its USER BLOCKS then": 1, and 0 as it does no more. */
    private static void blockOne() {
        Twinchat x = Chats.logged(0, 1, 2);
        Check.that("15: one", 1, x.block(0, 1, true));
        Check.that("15: none", 0, x.block(1, 1, false));
        Check.that("15: of another user", 1, x.block(2, 0, true));
        Check.that("15: each its own", 1, x.block(0, 5, true));
    }

    /** The greatest: all five others. */
    private static void blockFive() {
        for (int r : new int[] {0, 11}) {
            Twinchat x = Chats.logged(r);
            int count = 0;
            for (int v = 0; v < 6; v++) {
                if (v == r / 2) continue;
                count++;
                Check.that("15: one more", count, x.block(r, v, true));
                Check.that("15: it does", true, x.blocks(r / 2, v));
            }
            Check.that("15: all five", 5, count);
            Check.that("15: not itself", false, x.blocks(r / 2, r / 2));
            Check.that("15: four are left", 4, x.block(r, 5 - r / 2, false));
        }
    }

    private static void blockOfNobodyAvailable() {
        Twinchat x = Chats.logged(0, 6);
        Chats.befriend(x, 0, 6);
        Chats.befriend(x, 6, 0);
        Check.that("15: block", 1, x.block(0, 3, true));
        Check.that("15: nobody is told", true, x.isStill());
        Check.that("15: forget is not put", "", Chats.dues(x, 0));
        Check.that("15: block", 0, x.block(0, 3, false));
        Check.that("15: nobody is asked", true, x.isStill());
    }

    /** "if u is FROM v SUBSCRIBED: "p s off" to v": not ASKED, not TO; "forget v" in any case. */
    private static void blockTellsSubscribedAlone() {
        Twinchat x = Chats.logged(0, 1, 6, 8, 10);
        x.available(0, 0);
        x.available(1, -5);
        x.subscribe(6, 0);
        Chats.befriend(x, 0, 8);
        Chats.befriend(x, 10, 0);
        x.carryAll();
        Chats.pullAll(x);
        x.block(0, 3, true);
        x.block(0, 4, true);
        x.block(0, 1, true);
        Check.that("15: asked, to, nothing", "", Chats.linked(x, 0));
        x.block(0, 5, true);
        Check.that("15: subscribed", "p 0.0 off to 5; p 0.1 off to 5; ", Chats.linked(x, 0));
        Check.that("15: forget", "forget 3; forget 4; forget 1; forget 5; ", Chats.dues(x, 0));
        Check.that("15: to each available one", "forget 3; forget 4; forget 1; forget 5; ", Chats.dues(x, 1));
        Check.that("15: the priority stays", -5, x.ofStream(1, 6));
    }

    private static void blockChangesNoBond() {
        Twinchat x = Chats.logged(0, 6);
        Chats.befriend(x, 0, 6);
        Chats.befriend(x, 6, 0);
        x.available(0, 0);
        x.block(0, 3, true);
        x.carryAll();
        Check.that("15: to", 2, x.to(0, 3));
        Check.that("15: from", 2, x.from(0, 3));
        Check.that("15: to of the other", 2, x.to(3, 0));
        Check.that("15: available", 1, x.ofStream(0, 5));
    }

    private static void unblockOfNobodyAvailable() {
        Twinchat x = Chats.logged(0, 1, 6);
        Chats.befriend(x, 0, 6);
        Chats.befriend(x, 6, 0);
        x.block(0, 3, true);
        x.available(1, 0);
        x.unavailable(1);
        x.carryAll();
        Check.that("15: no more", 0, x.block(0, 3, false));
        Check.that("15: nobody is told or asked", "", Chats.linked(x, 0));
    }

    /** "if u is FROM v SUBSCRIBED: "p s P" to v; then, if u is TO v SUBSCRIBED: "probe s" to v". */
    private static void unblockTellsAndAsks() {
        String[] due = {"", "probe 0.0 to 3; ", "p 0.0 4 to 3; ", "p 0.0 4 to 3; probe 0.0 to 3; "};
        for (int bonds = 0; bonds < 4; bonds++) {
            Twinchat x = Chats.logged(0, 6);
            if ((bonds & 1) != 0) Chats.befriend(x, 0, 6);
            else x.subscribe(0, 3);
            if ((bonds & 2) != 0) Chats.befriend(x, 6, 0);
            else x.subscribe(6, 0);
            x.carryAll();
            x.block(0, 3, true);
            x.available(0, 4);
            x.carryAll();
            x.block(0, 3, false);
            Check.that("15: bonds " + bonds, due[bonds], Chats.linked(x, 0));
        }
    }

    private static void unblockOneByOne() {
        Twinchat x = Chats.logged(0, 1, 6);
        Chats.befriend(x, 0, 6);
        Chats.befriend(x, 6, 0);
        x.available(0, -5);
        x.available(1, 9);
        x.block(0, 3, true);
        x.carryAll();
        x.block(1, 3, false);
        Check.that("15: one, then the other", "p 0.0 -5 to 3; probe 0.0 to 3; p 0.1 9 to 3; probe 0.1 to 3; ", Chats.linked(x, 0));
    }

    /** 0.0 is SUBSCRIBED TO USER 3 and has pulled all; "p 3.0 2" is on the LINK to USER 0. */
    private static Twinchat presenceOnTheLink() {
        Twinchat x = Chats.logged(0, 6);
        x.available(0, 0);
        x.available(6, 1);
        Chats.befriend(x, 0, 6);
        Chats.pulled(x, 0);
        x.available(6, 2);
        return x;
    }

    /** "if u is TO the USER of s SUBSCRIBED": ASKED is not enough. */
    private static void presenceToUserAsked() {
        Twinchat x = presenceOnTheLink();
        x.unsubscribe(0, 3);
        x.subscribe(0, 3);
        x.carry(1, 1);
        Check.that("9: asked", 1, x.to(0, 3));
        Check.that("9: not put", "forget 3; ", Chats.dues(x, 0));
    }

    private static void presenceToUserNothing() {
        Twinchat x = presenceOnTheLink();
        x.unsubscribe(0, 3);
        x.carry(1, 1);
        Check.that("9: not put", "forget 3; ", Chats.dues(x, 0));
    }

    private static void presenceToUserBlocking() {
        Twinchat x = presenceOnTheLink();
        x.block(0, 3, true);
        x.carry(1, 1);
        Check.that("9: not put", "forget 3; ", Chats.dues(x, 0));
    }

    /** "PUT to each AVAILABLE RESOURCE of u": none, one, both. */
    private static void presenceToEachAvailable() {
        Twinchat x = Chats.logged(0, 1, 6);
        Chats.befriend(x, 0, 6);
        x.available(6, 1);
        x.carryAll();
        Check.that("9: none", "", Chats.dues(x, 0) + Chats.dues(x, 1));
        x.available(1, -5);
        x.carryAll();
        x.available(6, 2);
        x.carryAll();
        Check.that("9: one", "begin; p 3.0 1; p 3.0 2; ", Chats.dues(x, 0) + Chats.dues(x, 1));
        x.available(0, 0);
        x.carryAll();
        x.available(6, -5);
        x.carryAll();
        Check.that("9: the one", "begin; p 3.0 2; p 3.0 -5; ", Chats.dues(x, 0));
        Check.that("9: the other", "begin; p 3.0 1; p 3.0 2; p 3.0 -5; ", Chats.dues(x, 1));
    }

    /** "It comes to a RESOURCE: likewise, to that alone, if it is AVAILABLE". */
    private static void presenceToResource() {
        Twinchat x = Chats.logged(0, 1, 6);
        Chats.befriend(x, 0, 6);
        x.available(6, 1);
        x.carryAll();
        x.available(0, 0);
        x.carryAll();
        x.available(1, 0);
        x.carry(0, 9);
        x.unavailable(1);
        x.carryAll();
        Check.that("9: no longer available", "begin; ", Chats.dues(x, 1));
        Check.that("9: not to its other one", "begin; p 3.0 1; ", Chats.dues(x, 0));
    }

    /** 0.0 is SUBSCRIBED TO USER 3 and became AVAILABLE; "p 3.0 1", its answer, is on the LINK to 0.0. */
    private static Twinchat answerOnTheLink() {
        Twinchat x = Chats.logged(0, 6);
        Chats.befriend(x, 0, 6);
        x.available(6, 1);
        x.carryAll();
        x.available(0, 0);
        x.carry(0, 9);
        return x;
    }

    /** "likewise": if u BLOCKS the USER of s by then, it is not PUT. */
    private static void presenceToResourceBlocking() {
        Twinchat x = answerOnTheLink();
        Check.that("9: it is on the link", "p 3.0 1 to 0.0; ", Chats.linked(x, 1));
        x.block(0, 3, true);
        x.carryAll();
        Check.that("9: not put", "begin; forget 3; ", Chats.dues(x, 0));
    }

    /** "likewise": if u is no longer TO the USER of s SUBSCRIBED, it is not PUT. */
    private static void presenceToResourceNoLonger() {
        for (boolean isAskedAnew : new boolean[] {false, true}) {
            Twinchat x = answerOnTheLink();
            x.unsubscribe(0, 3);
            if (isAskedAnew) x.subscribe(0, 3);
            x.carry(1, 9);
            Check.that("9: not put", "begin; forget 3; ", Chats.dues(x, 0));
        }
    }

    /** "if v is FROM the USER of r SUBSCRIBED": NOTHING by then. */
    private static void probeOfNothing() {
        Twinchat x = Chats.logged(0, 6);
        Chats.befriend(x, 0, 6);
        x.available(6, 1);
        x.carryAll();
        x.available(0, 0);
        x.deny(6, 0);
        x.carry(0, 9);
        Check.that("9: no answer", "no 1 3 to 0; ", Chats.linked(x, 1));
    }

    /** "and does not BLOCK it". */
    private static void probeOfOneThatBlocks() {
        Twinchat x = Chats.logged(0, 6);
        Chats.befriend(x, 0, 6);
        x.available(6, 1);
        x.carryAll();
        x.block(6, 0, true);
        x.available(0, 0);
        x.carry(0, 9);
        Check.that("9: off alone, no answer", "p 3.0 off to 0; ", Chats.linked(x, 1));
    }

    /** "for each AVAILABLE RESOURCE s of v": there is none. */
    private static void probeOfNobodyAvailable() {
        Twinchat x = Chats.logged(0, 6);
        Chats.befriend(x, 0, 6);
        x.available(0, 0);
        Check.that("9: the probe alone", 1, x.carryAll());
        Check.that("9: no answer", "begin; ", Chats.dues(x, 0));
    }

    private static void probeOfBoth() {
        Twinchat x = Chats.logged(0, 6, 7, 8);
        Chats.befriend(x, 0, 6);
        x.available(7, 9);
        x.available(6, -5);
        x.available(8, 1);
        x.carryAll();
        x.available(0, 0);
        x.carry(0, 1);
        Check.that("9: by number, to the one that asked", "p 3.0 -5 to 0.0; p 3.1 9 to 0.0; ", Chats.linked(x, 1));
    }

    /** A RESOURCE whose stream is BROKEN is AVAILABLE still: it tells, answers and has all. */
    private static void brokenHasAll() {
        Twinchat x = Chats.logged(0, 6, 7);
        x.available(6, 4);
        x.breaks(6);
        x.subscribe(0, 3);
        x.carryAll();
        Check.that("11: ask is put", "begin; ask 1 0; ", Chats.dues(x, 6));
        x.approve(7, 0);
        Check.that("13: it is told of", "yes 1 3 to 0; p 3.0 4 to 0; ", Chats.linked(x, 1));
        x.carryAll();
        x.available(0, 0);
        x.carryAll();
        Check.that("9: it is answered of", "begin; p 3.0 4; ", Chats.dues(x, 0));
        x.block(7, 0, true);
        Check.that("15: off of it", "p 3.0 off to 0; ", Chats.linked(x, 1));
        Check.that("15: forget is put", "begin; ask 1 0; forget 0; ", Chats.dues(x, 6));
    }

    /** USER 0 and USER 5, in each act and in what comes of it. */
    private static void firstAndLastUser() {
        for (int r : new int[] {0, 11}) {
            int s = 11 - r;
            int u = r / 2;
            int v = s / 2;
            Twinchat x = Chats.logged(r, s);
            x.available(r, -5);
            x.available(s, 9);
            Check.that("11: subscribe", 1, x.subscribe(r, v));
            x.carryAll();
            Check.that("13: approve", 1, x.approve(s, u));
            x.carryAll();
            Chats.pullAll(x);
            Check.that("3: sees", "9", x.sees(r, s));
            Check.that("15: block", 1, x.block(r, v, true));
            Check.that("15: no more", 0, x.block(r, v, false));
            x.carryAll();
            Chats.pullAll(x);
            Check.that("3: sees again", "9", x.sees(r, s));
            Check.that("14: deny", 1, x.deny(s, u));
            x.carryAll();
            Check.that("11: anew", 2, x.subscribe(r, v));
            Check.that("12: unsubscribe", 2, x.unsubscribe(r, v));
            x.carryAll();
            Check.that("49: sound", true, x.isSound());
        }
    }
}
