/** The boundary cases of section 1 and of promises 2 to 8, a test for each sentence that names one. */
public final class StreamEdgesTest {
    private StreamEdgesTest() {
    }

    public static void main(String[] args) {
        userOfResource();
        loginOfFirstAndLast();
        loginCountsBroken();
        loginAfterLogout();
        loginAfterLetGo();
        putIntoOff();
        putIntoOn();
        putIntoBroken();
        pullNothing();
        pullOne();
        pullNinetyNine();
        pullMoreThanThereIs();
        pullReceivesMessagesAlone();
        inboxOfEarlierStreams();
        seesLeastAndGreatest();
        seesAnotherPriority();
        offOfOne();
        beginSeesNobody();
        forgetOfBoth();
        noOfBoth();
        othersChangeNothingSeen();
        ackOfNothing();
        ackTwice();
        breaksWithNothing();
        breaksKeepsAll();
        resumeWithNothing();
        resumeWithWhatCame();
        logoutWithNothing();
        logoutOfOneNotAvailable();
        logoutOfOneAvailable();
        logoutLeavesBothRooms();
        logoutBehindPulledAlone();
        logoutOfOthersThanMessages();
        logoutToTheUser();
        logoutToOneBelowZero();
        logoutNeverToItself();
        logoutAtOnce();
        logoutStoresFive();
        logoutOfBlocked();
        logoutAgainAndAgain();
        letGoWithNothing();
        letGoOfAll();
        letGoBehindAckedAlone();
        letGoOfOthersThanMessages();
        letGoOfOneNotAvailable();
        letGoOfOneAvailable();
        letGoBouncesLast();
        letGoStoresNothing();
        letGoToOneThatIsOff();
        System.exit(Check.closed("StreamEdgesTest"));
    }

    /** "RESOURCE r is of USER r / 2 (rounded down); as a text "U.k"": both of each USER, first and last. */
    private static void userOfResource() {
        String[] names = {"0.0", "0.1", "1.0", "1.1", "2.0", "2.1", "3.0", "3.1", "4.0", "4.1", "5.0", "5.1"};
        for (int r = 0; r < 12; r++) {
            int to = r / 6 * 6 + (r + 2) % 6;
            Twinchat x = Chats.logged(r, to);
            x.send(r, to / 2, to % 2);
            Check.that("1: name of " + r, "m 1 " + names[r] + "; ", Chats.dues(x, to));
        }
    }

    /** "Returns how many RESOURCES are not OFF then": the smallest RESOURCE, the greatest; 1, 12. */
    private static void loginOfFirstAndLast() {
        Check.that("2: the smallest", 1, new Twinchat().login(0));
        Twinchat x = new Twinchat();
        Check.that("2: the greatest", 1, x.login(11));
        Check.that("2: it alone is on", 1, x.ofStream(11, 0));
        Check.that("2: the one beside is off", 0, x.ofStream(10, 0));
        for (int r = 0; r < 11; r++) Check.that("2: one more", r + 2, x.login(r));
    }

    /** "how many RESOURCES are not OFF": BROKEN ones are not OFF. */
    private static void loginCountsBroken() {
        Twinchat x = Chats.logged(0, 1);
        x.breaks(0);
        Check.that("2: one broken, two on", 3, x.login(2));
    }

    /** "the stream is empty, PULLED and ACKED 0; it is not AVAILABLE": behind a logout. */
    private static void loginAfterLogout() {
        Twinchat x = Chats.logged(0, 2);
        x.available(2, 4);
        Chats.send(x, 0, 1, 0, 3);
        x.pull(2, 2);
        x.ack(2);
        x.pull(2, 1);
        x.logout(2);
        x.login(2);
        emptyAndOn(x);
    }

    /** The same behind a stream that was let go. */
    private static void loginAfterLetGo() {
        Twinchat x = Chats.logged(0, 2);
        x.available(2, 4);
        Chats.send(x, 0, 1, 0, 3);
        x.pull(2, 2);
        x.ack(2);
        x.pull(2, 1);
        x.breaks(2);
        x.letGo(2);
        x.login(2);
        emptyAndOn(x);
    }

    private static void emptyAndOn(Twinchat x) {
        int[] due = {1, 0, 0, 0, 3, 0, -1};
        for (int what = 0; what <= 6; what++) Check.that("2: a new stream " + what, due[what], x.ofStream(2, what));
        Check.that("2: nothing is due", "-", x.due(2, 0));
    }

    /** "Into one that is not OFF STANZAS are PUT": into one that is OFF none, of any kind. */
    private static void putIntoOff() {
        Twinchat x = Chats.logged(0, 2, 6);
        x.block(2, 3, true);
        x.send(6, 1, 0);
        x.join(6, 0);
        x.logout(6);
        x.carryAll();
        Check.that("1: neither bounce nor room", 0, x.ofStream(6, 1));
        x.login(6);
        Check.that("1: nor later", 0, x.ofStream(6, 1));
    }

    /** One that is ON has what is for it, if it is not AVAILABLE too. */
    private static void putIntoOn() {
        Twinchat x = Chats.logged(0, 2, 4);
        x.block(4, 0, true);
        x.send(0, 2, 0);
        x.join(0, 0);
        x.send(2, 0, 0);
        Check.that("1: put", "b 1 unavailable; in g0 0.0 2; m 2 1.0; ", Chats.dues(x, 0));
    }

    /** One that is BROKEN is not OFF: behind each other, all kinds. */
    private static void putIntoBroken() {
        Twinchat x = Chats.logged(0, 6, 8);
        Chats.befriend(x, 0, 6);
        x.available(0, 0);
        x.join(0, 0);
        x.block(8, 0, true);
        x.send(0, 4, 0);
        x.carryAll();
        Chats.pulled(x, 0);
        x.send(0, 4, 0);
        x.breaks(0);
        x.carryAll();
        x.send(6, 0, -1);
        x.available(6, 3);
        x.join(6, 0);
        x.deny(6, 0);
        x.carryAll();
        Check.that("1: put", "b 2 unavailable; m 3 3.0; p 3.0 3; in g0 3.0 1; no 1 3; ", Chats.dues(x, 0));
    }

    /** "Returns how many it took": of an empty stream none, and nothing changes. */
    private static void pullNothing() {
        Twinchat x = Chats.logged(0, 2);
        Check.that("3: nothing was put", 0, x.pull(2, 1));
        x.send(0, 1, 0);
        x.pull(2, 1);
        String before = Whole.of(x);
        Check.that("3: nothing is behind pulled, one", 0, x.pull(2, 1));
        Check.that("3: nothing is behind pulled, 99", 0, x.pull(2, 99));
        Check.that("3: nothing changed", before, Whole.of(x));
    }

    /** "many .. 1 to 99": the smallest. */
    private static void pullOne() {
        Twinchat x = Chats.logged(0, 2);
        Chats.send(x, 0, 1, 0, 2);
        Check.that("3: one of two", 1, x.pull(2, 1));
        Check.that("3: pulled", 1, x.ofStream(2, 2));
        Check.that("3: put stays", 2, x.ofStream(2, 1));
        Check.that("3: the other is due", "m 2 0.0; ", Chats.dues(x, 2));
        Check.that("3: the last one", 1, x.pull(2, 1));
        Check.that("3: all are pulled", 2, x.ofStream(2, 2));
    }

    /** "many .. 1 to 99": the greatest, with one less, as many and one more behind PULLED. */
    private static void pullNinetyNine() {
        for (int there = 98; there <= 100; there++) {
            Twinchat x = Chats.logged(0, 2);
            Chats.send(x, 0, 1, 0, there);
            Check.that("3: 99 of " + there, Math.min(there, 99), x.pull(2, 99));
            Check.that("3: what is left of " + there, Math.max(there - 99, 0), x.breaks(2));
        }
    }

    /** "how many STANZAS at most": one less, as many and one more than are there. */
    private static void pullMoreThanThereIs() {
        for (int many = 4; many <= 6; many++) {
            Twinchat x = Chats.logged(0, 2);
            Chats.send(x, 0, 1, 0, 5);
            Check.that("3: " + many + " of 5", Math.min(many, 5), x.pull(2, many));
            Check.that("3: pulled of 5", Math.min(many, 5), x.ofStream(2, 2));
            Check.that("3: the inbox of 5", Math.min(many, 5), x.ofStream(2, 4));
        }
    }

    /** "a MESSAGE is RECEIVED by it": what is none and bears its number is not. */
    private static void pullReceivesMessagesAlone() {
        Twinchat x = Chats.logged(0, 2, 4);
        x.available(2, 0);
        x.send(0, 2, -1);
        x.send(0, 2, -1);
        x.subscribe(0, 1);
        x.join(0, 0);
        x.join(2, 0);
        x.say(2, 0);
        x.block(4, 0, true);
        x.send(0, 2, 0);
        x.pull(0, 99);
        x.pull(2, 99);
        for (int number = 1; number <= 3; number++) Check.that("3: not received " + number, -1, x.fate(number, 1));
        Check.that("3: none is", 0, x.house(1));
        Check.that("3: sound", true, x.isSound());
    }

    /** "INBOX of a RESOURCE: the texts of all that it ever pulled (also from earlier streams)". */
    private static void inboxOfEarlierStreams() {
        Twinchat x = Chats.logged(0, 2);
        x.send(0, 1, 0);
        x.pull(2, 99);
        x.logout(2);
        Check.that("1: of one that is off", "m 1 0.0", x.inbox(2, 0));
        x.login(2);
        x.send(0, 1, 0);
        Check.that("1: what is due is not in it", 1, x.ofStream(2, 4));
        x.pull(2, 99);
        x.breaks(2);
        x.letGo(2);
        x.login(2);
        Check.that("1: of three streams", 2, x.ofStream(2, 4));
        Check.that("1: the last", "m 2 0.0", x.inbox(2, 0));
        Check.that("1: the first", "m 1 0.0", x.inbox(2, 1));
    }

    /** 0.0 and 0.1 are SUBSCRIBED TO USER 3, all are AVAILABLE and have pulled all. */
    private static Twinchat friends(int first, int second) {
        Twinchat x = Chats.logged(0, 1, 5, 6, 7, 8);
        Chats.befriend(x, 0, 6);
        Chats.befriend(x, 0, 5);
        Chats.befriend(x, 0, 8);
        x.available(0, 0);
        x.available(5, 5);
        x.available(6, first);
        x.available(7, second);
        x.available(8, 8);
        x.carryAll();
        Chats.pullAll(x);
        return x;
    }

    /** "it SEES the RESOURCE s with the PRIORITY P": -5 and 9. */
    private static void seesLeastAndGreatest() {
        Twinchat x = friends(-5, 9);
        Check.that("3: the smallest priority", "-5", x.sees(0, 6));
        Check.that("3: the greatest priority", "9", x.sees(0, 7));
        Twinchat y = friends(-1, 0);
        Check.that("3: -1 is a priority", "-1", y.sees(0, 6));
        Check.that("3: 0 is a priority", "0", y.sees(0, 7));
    }

    private static void seesAnotherPriority() {
        Twinchat x = friends(1, 2);
        x.available(6, 3);
        x.carryAll();
        Check.that("3: till it is pulled", "1", x.sees(0, 6));
        x.pull(0, 1);
        Check.that("3: the later one", "3", x.sees(0, 6));
        Check.that("3: at the resource alone", "-", x.sees(1, 6));
    }

    /** ""p s off": it does not SEE s": s alone. */
    private static void offOfOne() {
        Twinchat x = friends(1, 2);
        x.unavailable(7);
        x.carryAll();
        Check.that("3: off", "p 3.1 off; ", Chats.pulled(x, 0));
        Check.that("3: not seen", "-", x.sees(0, 7));
        Check.that("3: its other one is", "1", x.sees(0, 6));
        Check.that("3: one beside is", "8", x.sees(0, 8));
    }

    /** ""begin": it SEES nobody": from the first RESOURCE to the last. */
    private static void beginSeesNobody() {
        for (int s : new int[] {0, 11}) {
            int r = 11 - s;
            Twinchat x = Chats.logged(0, 11);
            Chats.befriend(x, r, s);
            x.available(r, 0);
            x.available(s, 1);
            x.carryAll();
            Chats.pulled(x, r);
            Check.that("3: seen " + s, "1", x.sees(r, s));
            x.unavailable(r);
            x.unavailable(s);
            x.carryAll();
            Check.that("3: seen still " + s, "1", x.sees(r, s));
            x.available(r, 0);
            Check.that("3: begin", "begin; ", Chats.pulled(x, r));
            Check.that("3: nobody", "-", x.sees(r, s));
        }
    }

    /** ""forget v" ..: it SEES no RESOURCE of the USER v": neither the one nor the other. */
    private static void forgetOfBoth() {
        Twinchat x = friends(1, 2);
        x.unsubscribe(0, 3);
        Check.that("3: forget", "forget 3; ", Chats.pulled(x, 0));
        Check.that("3: not the one", "-", x.sees(0, 6));
        Check.that("3: not the other", "-", x.sees(0, 7));
        Check.that("3: the user ahead", "5", x.sees(0, 5));
        Check.that("3: the user behind", "8", x.sees(0, 8));
    }

    /** "".., "no n v": it SEES no RESOURCE of the USER v". */
    private static void noOfBoth() {
        Twinchat x = friends(1, 2);
        x.deny(6, 0);
        x.carryAll();
        Check.that("3: no", "no 1 3; ", Chats.pulled(x, 0));
        Check.that("3: not the one", "-", x.sees(0, 6));
        Check.that("3: not the other", "-", x.sees(0, 7));
        Check.that("3: the user ahead", "5", x.sees(0, 5));
        Check.that("3: the user behind", "8", x.sees(0, 8));
    }

    /** What is not named there does nothing to what one SEES: "ask", "yes", "m", "b", "in", "out", "said", "not". */
    private static void othersChangeNothingSeen() {
        Twinchat x = friends(1, 2);
        x.subscribe(6, 0);
        x.carryAll();
        x.subscribe(0, 1);
        x.send(6, 0, -1);
        x.block(8, 0, true);
        x.carryAll();
        x.available(8, 8);
        x.send(0, 4, 0);
        x.carryAll();
        x.join(6, 1);
        x.say(0, 1);
        x.join(0, 1);
        x.carryAll();
        x.say(6, 1);
        x.leave(6, 1);
        x.carryAll();
        String pulled = Chats.pulled(x, 0);
        Check.that("3: all kinds", "ask 4 3; m 1 3.0; p 4.0 off; b 2 unavailable; not g1 in; in g1 3.0 2; in g1 0.0 1; "
                + "said g1 1 3.0; out g1 3.0; ", pulled);
        Check.that("3: the one", "1", x.sees(0, 6));
        Check.that("3: the other", "2", x.sees(0, 7));
        Check.that("3: the user ahead", "5", x.sees(0, 5));
    }

    /** "ACKED becomes PULLED": 0 of an empty stream. */
    private static void ackOfNothing() {
        Twinchat x = Chats.logged(0, 2);
        Check.that("4: nothing was put", 0, x.ack(2));
        x.send(0, 1, 0);
        Check.that("4: nothing was pulled", 0, x.ack(2));
    }

    private static void ackTwice() {
        Twinchat x = Chats.logged(0, 2);
        Chats.send(x, 0, 1, 0, 3);
        x.pull(2, 2);
        Check.that("4: what was pulled", 2, x.ack(2));
        String before = Whole.of(x);
        Check.that("4: again", 2, x.ack(2));
        Check.that("4: nothing changed", before, Whole.of(x));
        x.pull(2, 1);
        Check.that("4: all", 3, x.ack(2));
    }

    /** "Returns how many STANZAS are behind PULLED": none. */
    private static void breaksWithNothing() {
        Twinchat x = Chats.logged(0, 2);
        Check.that("5: nothing was put", 0, x.breaks(2));
        x.resume(2);
        x.send(0, 1, 0);
        x.pull(2, 1);
        Check.that("5: all was pulled", 0, x.breaks(2));
    }

    /** "ON becomes BROKEN": nothing else changes. */
    private static void breaksKeepsAll() {
        Twinchat x = Chats.logged(0, 2);
        x.available(2, -5);
        x.join(2, 0);
        Chats.send(x, 0, 1, 0, 4);
        x.pull(2, 4);
        x.ack(2);
        x.pull(2, 1);
        Check.that("5: one is behind", 1, x.breaks(2));
        int[] due = {2, 6, 5, 4, 5, 1, -5};
        for (int what = 0; what <= 6; what++) Check.that("5: stays " + what, due[what], x.ofStream(2, what));
        Check.that("5: in the room still", 1, x.roleOf(0, 2));
        Check.that("6: one is behind", 1, x.resume(2));
        due[0] = 1;
        for (int what = 0; what <= 6; what++) Check.that("6: stays " + what, due[what], x.ofStream(2, what));
    }

    private static void resumeWithNothing() {
        Twinchat x = Chats.logged(2);
        x.breaks(2);
        Check.that("6: nothing was put", 0, x.resume(2));
        Check.that("6: on", 1, x.ofStream(2, 0));
    }

    /** "all behind PULLED can be pulled still": what was there ahead of the break and what came in it. */
    private static void resumeWithWhatCame() {
        Twinchat x = Chats.logged(0, 2);
        Chats.send(x, 0, 1, 0, 2);
        x.pull(2, 1);
        x.breaks(2);
        x.send(0, 1, 0);
        Check.that("6: one of before, one that came", 2, x.resume(2));
        Check.that("6: pulled", 2, x.pull(2, 99));
        Check.that("6: received", 2, x.fate(3, 1));
    }

    private static void logoutWithNothing() {
        Twinchat x = Chats.logged(2);
        Check.that("8: nothing was put", 0, x.logout(2));
        Check.that("8: off", 0, x.ofStream(2, 0));
    }

    /** "it becomes as by "unavailable", if it is AVAILABLE": otherwise nobody is told, and it is not REFUSED. */
    private static void logoutOfOneNotAvailable() {
        Twinchat x = Chats.logged(0, 6);
        Chats.befriend(x, 6, 0);
        x.logout(0);
        Check.that("8: leave alone", "leave 0.0 to g1; ", Chats.linked(x, 0));
        Check.that("8: not refused", 0, x.house(8));
    }

    private static void logoutOfOneAvailable() {
        Twinchat x = Chats.logged(0, 6, 8, 10);
        Chats.befriend(x, 6, 0);
        Chats.befriend(x, 8, 0);
        x.subscribe(10, 0);
        x.available(0, 0);
        x.block(0, 4, true);
        x.carryAll();
        x.logout(0);
        Check.that("8: off to the follower it does not block", "p 0.0 off to 3; leave 0.0 to g1; ", Chats.linked(x, 0));
        Check.that("8: not refused", 0, x.house(8));
    }

    /** ""leave" STANZAS go to both ROOMS": in or not. */
    private static void logoutLeavesBothRooms() {
        Twinchat x = Chats.logged(0, 2, 6);
        x.join(0, 0);
        x.join(2, 0);
        x.join(2, 1);
        x.join(6, 1);
        x.carryAll();
        Chats.pullAll(x);
        x.logout(2);
        Check.that("8: out of the one", "out g0 1.0; ", Chats.dues(x, 0));
        Check.that("8: not yet out of the other", 1, x.roleOf(1, 2));
        x.carryAll();
        Check.that("8: out of the other", "out g1 1.0; ", Chats.dues(x, 6));
        Twinchat y = Chats.logged(8);
        y.logout(8);
        Check.that("8: of one that was in none", "leave 4.0 to g0; ", Chats.linked(y, 1));
    }

    /** "each MESSAGE that was behind PULLED": ACKED does not matter. */
    private static void logoutBehindPulledAlone() {
        Twinchat x = Chats.logged(0, 2);
        Chats.send(x, 0, 1, 0, 4);
        x.pull(2, 1);
        x.ack(2);
        x.pull(2, 1);
        Check.that("8: two of four", 2, x.logout(2));
        int[] due = {0, 0, 1, 1};
        for (int k = 0; k < 4; k++) Check.that("8: anew " + (k + 1), due[k], x.fate(k + 1, 4));
        Check.that("8: the first of them is stored", 3, x.stored(1, 0));
        Check.that("8: and the second", 4, x.stored(1, 1));
        Check.that("8: no more", -1, x.stored(1, 2));
        Check.that("8: none is bounced", 0, x.house(2));
    }

    /** "Returns how many MESSAGES": what else was behind PULLED is gone. */
    private static void logoutOfOthersThanMessages() {
        Twinchat x = Chats.logged(0, 2, 4);
        x.available(2, 1);
        x.join(2, 0);
        x.block(4, 1, true);
        x.send(2, 2, 0);
        x.subscribe(0, 1);
        Check.that("8: they are there", "begin; in g0 1.0 1; b 1 unavailable; ask 1 0; ", Chats.dues(x, 2));
        Check.that("8: no message", 0, x.logout(2));
        Check.that("8: nothing anew", 0, x.fate(1, 4));
        x.login(2);
        Check.that("8: gone", 0, x.ofStream(2, 1));
    }

    /** "it comes as if it was to the USER": also one that was sent to the RESOURCE. */
    private static void logoutToTheUser() {
        Twinchat x = Chats.logged(0, 2, 3);
        x.available(3, 0);
        x.send(0, 1, 0);
        x.logout(2);
        Check.that("8: the other resource has it", "begin; m 1 0.0; ", Chats.dues(x, 3));
        Twinchat y = Chats.logged(0, 2, 3);
        y.send(0, 1, 0);
        y.logout(2);
        Check.that("8: not one that is not available", "", Chats.dues(y, 3));
        Check.that("8: stored", 1, y.stored(1, 0));
    }

    /** "the greatest PRIORITY that is not below 0": of the other RESOURCE too. */
    private static void logoutToOneBelowZero() {
        Twinchat x = Chats.logged(0, 2, 3);
        x.available(2, 0);
        x.available(3, -1);
        x.send(0, 1, -1);
        x.logout(2);
        Check.that("8: below 0 it has none", "begin; ", Chats.dues(x, 3));
        Check.that("8: stored", 1, x.stored(1, 0));
    }

    /** "its stream is OFF and empty; then": it had the greatest PRIORITY, and gets none of them. */
    private static void logoutNeverToItself() {
        Twinchat x = Chats.logged(0, 2, 3);
        x.available(2, 9);
        x.available(3, 0);
        x.send(0, 1, -1);
        x.send(0, 1, 0);
        Check.that("8: two", 2, x.logout(2));
        Check.that("8: to the other one", "begin; m 1 0.0; m 2 0.0; ", Chats.dues(x, 3));
        Check.that("8: none to itself", 0, x.ofStream(2, 1));
    }

    /** "at once: ahead of the STANZAS that were made by this act and have not come yet". */
    private static void logoutAtOnce() {
        Twinchat x = Chats.logged(0, 2, 3);
        Chats.befriend(x, 0, 2);
        x.join(2, 0);
        x.join(3, 0);
        x.available(2, 1);
        x.available(3, 0);
        x.send(0, 1, 0);
        Chats.pulled(x, 3);
        x.logout(2);
        Check.that("8: the message, then out", "m 1 0.0; out g0 1.0; ", Chats.dues(x, 3));
        Twinchat y = Chats.logged(0, 2);
        y.block(2, 0, true);
        y.block(2, 0, false);
        y.join(0, 0);
        y.join(2, 0);
        y.send(0, 1, 0);
        y.block(2, 0, true);
        Chats.pulled(y, 0);
        y.logout(2);
        // the bounce was made behind "leave", and comes behind it; what "leave" makes comes behind both
        Check.that("8: what it makes comes in its turn", "b 1 unavailable; out g0 1.0; ", Chats.dues(y, 0));
    }

    /** "STORED, if less than 5 are STORED of v; otherwise BOUNCED ("full")": with some there already. */
    private static void logoutStoresFive() {
        Twinchat x = Chats.logged(0, 2);
        Chats.send(x, 0, 1, 1, 3);
        Chats.send(x, 0, 1, 0, 3);
        Check.that("8: all count", 3, x.logout(2));
        for (int k = 0; k < 5; k++) Check.that("8: stored", k + 1, x.stored(1, k));
        Check.that("8: no sixth", -1, x.stored(1, 5));
        Check.that("8: full", "b 6 full; ", Chats.dues(x, 0));
        Check.that("8: anew and bounced", 1, x.fate(6, 4));
        Check.that("8: bounced", 1, x.fate(6, 2));
        Check.that("8: not stored", 0, x.fate(6, 3));
    }

    private static void logoutOfBlocked() {
        Twinchat x = Chats.logged(0, 2, 3, 4);
        x.available(3, 9);
        x.send(0, 1, 0);
        x.send(4, 1, 0);
        x.block(2, 0, true);
        Check.that("8: both count", 2, x.logout(2));
        Check.that("8: the blocked one bounced", "b 1 unavailable; ", Chats.dues(x, 0));
        Check.that("8: the other one is put", "begin; forget 0; m 2 2.0; ", Chats.dues(x, 3));
        Check.that("8: it counts as anew", 1, x.fate(1, 4));
    }

    /** "how often it was DELIVERED ANEW". */
    private static void logoutAgainAndAgain() {
        Twinchat x = Chats.logged(0, 2, 3);
        x.send(0, 1, 0);
        for (int k = 1; k <= 3; k++) {
            x.available(2, 0);
            x.logout(2);
            Check.that("8: anew", k, x.fate(1, 4));
            x.login(2);
        }
        Check.that("8: stored", 1, x.stored(1, 0));
        Check.that("8: sent once", 1, x.house(0));
    }

    /** "Returns how many MESSAGES were BOUNCED by that": nothing put; all ACKED. */
    private static void letGoWithNothing() {
        Twinchat x = Chats.logged(0, 2);
        x.breaks(2);
        Check.that("7: nothing was put", 0, x.letGo(2));
        x.login(2);
        Chats.send(x, 0, 1, 0, 2);
        x.pull(2, 2);
        x.ack(2);
        x.breaks(2);
        Check.that("7: all is acked", 0, x.letGo(2));
        Check.that("7: none is bounced", 0, x.house(2));
        Check.that("7: off", 0, x.ofStream(2, 0));
    }

    private static void letGoOfAll() {
        Twinchat x = Chats.logged(0, 2);
        Chats.send(x, 0, 1, 0, 6);
        x.breaks(2);
        Check.that("7: none is acked", 6, x.letGo(2));
        Check.that("7: all are bounced, more than could be stored", 6, x.house(2));
        Check.that("7: in their sequence", "b 1 gone; b 2 gone; b 3 gone; b 4 gone; b 5 gone; b 6 gone; ", Chats.dues(x, 0));
    }

    /** "each MESSAGE that was behind ACKED": PULLED does not matter; what was RECEIVED stays RECEIVED. */
    private static void letGoBehindAckedAlone() {
        Twinchat x = Chats.logged(0, 2);
        Chats.send(x, 0, 1, 0, 3);
        x.pull(2, 1);
        x.ack(2);
        x.pull(2, 1);
        x.breaks(2);
        Check.that("7: two of three", 2, x.letGo(2));
        int[][] due = {{2, 0}, {2, 1}, {-1, 1}};
        for (int k = 0; k < 3; k++) {
            Check.that("7: received " + (k + 1), due[k][0], x.fate(k + 1, 1));
            Check.that("7: bounced " + (k + 1), due[k][1], x.fate(k + 1, 2));
        }
        Check.that("7: how many were received", 2, x.house(1));
        Check.that("7: how many were bounced", 2, x.house(2));
        Check.that("7: sound", true, x.isSound());
    }

    private static void letGoOfOthersThanMessages() {
        Twinchat x = Chats.logged(0, 2, 4);
        x.available(2, 1);
        x.join(2, 0);
        x.block(4, 1, true);
        x.send(2, 2, 0);
        x.subscribe(0, 1);
        x.breaks(2);
        Check.that("7: no message", 0, x.letGo(2));
        Check.that("7: nobody is told of a bounce", "", Chats.dues(x, 0));
        x.login(2);
        Check.that("7: gone", 0, x.ofStream(2, 1));
    }

    private static void letGoOfOneNotAvailable() {
        Twinchat x = Chats.logged(0, 6);
        Chats.befriend(x, 6, 0);
        x.breaks(0);
        x.letGo(0);
        Check.that("7: leave alone", "leave 0.0 to g1; ", Chats.linked(x, 0));
        Check.that("7: not refused", 0, x.house(8));
    }

    private static void letGoOfOneAvailable() {
        Twinchat x = Chats.logged(0, 6, 8);
        Chats.befriend(x, 6, 0);
        Chats.befriend(x, 8, 0);
        x.available(0, 3);
        x.block(0, 4, true);
        x.carryAll();
        x.breaks(0);
        Check.that("7: available while it is broken", 1, x.ofStream(0, 5));
        x.letGo(0);
        Check.that("7: off to the follower it does not block", "p 0.0 off to 3; leave 0.0 to g1; ", Chats.linked(x, 0));
        Check.that("7: not available", 0, x.ofStream(0, 5));
        Check.that("7: no priority", -1, x.ofStream(0, 6));
    }

    /** "these STANZAS behind the others of the act". */
    private static void letGoBouncesLast() {
        Twinchat x = Chats.logged(0, 2);
        Chats.befriend(x, 0, 2);
        x.available(0, 0);
        x.available(2, 0);
        x.send(0, 1, 0);
        Chats.pulled(x, 0);
        x.breaks(2);
        x.letGo(2);
        Check.that("7: off, then the bounce", "p 1.0 off; b 1 gone; ", Chats.dues(x, 0));
    }

    /** "BOUNCED instead": not DELIVERED ANEW, with another RESOURCE there that would take it. */
    private static void letGoStoresNothing() {
        Twinchat x = Chats.logged(0, 2, 3);
        x.available(3, 9);
        Chats.send(x, 0, 1, 0, 2);
        x.breaks(2);
        Check.that("7: two", 2, x.letGo(2));
        Check.that("7: nothing to the other resource", "begin; ", Chats.dues(x, 3));
        Check.that("7: nothing is stored", -1, x.stored(1, 0));
        Check.that("7: nothing anew", 0, x.fate(1, 4));
    }

    private static void letGoToOneThatIsOff() {
        Twinchat x = Chats.logged(0, 2);
        x.send(0, 1, 0);
        x.logout(0);
        x.breaks(2);
        Check.that("7: one", 1, x.letGo(2));
        Check.that("7: bounced", 1, x.fate(1, 2));
        x.login(0);
        Check.that("7: who is off is told nothing", 0, x.ofStream(0, 1));
    }
}
