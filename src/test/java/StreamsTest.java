/** Promises 1 to 8: a new object, and the streams. */
public final class StreamsTest {
    private StreamsTest() {
    }

    public static void main(String[] args) {
        newObject();
        login();
        pull();
        pullOfPresence();
        ack();
        breaksAndResume();
        letGo();
        logout();
        logoutBounces();
        endLeavesRooms();
        System.exit(Check.closed("StreamsTest"));
    }

    private static void newObject() {
        Twinchat x = new Twinchat();
        int[] house = {0, 0, 0, 0, 0, 1, 1, 0, 0, 0};
        for (int what = 0; what < 10; what++) Check.that("1: house " + what, house[what], x.house(what));
        for (int r = 0; r < 12; r++) {
            int[] stream = {0, 0, 0, 0, 0, 0, -1};
            for (int what = 0; what < 7; what++) Check.that("1: stream " + what, stream[what], x.ofStream(r, what));
            for (int s = 0; s < 12; s++) Check.that("1: sees", "-", x.sees(r, s));
        }
        for (int u = 0; u < 6; u++) {
            Check.that("1: rank in room 0", u == 0 ? 2 : 0, x.affiliation(0, u));
            Check.that("1: rank in room 1", u == 3 ? 2 : 0, x.affiliation(1, u));
        }
        Check.that("1: sound", true, x.isSound());
        Check.that("1: still", true, x.isStill());
        Check.that("1: two are alike", new Twinchat().digest(), x.digest());
    }

    private static void login() {
        Twinchat x = new Twinchat();
        for (int r = 11; r >= 0; r--) Check.that("2: login", 12 - r, x.login(r));
        x.breaks(3);
        x.logout(4);
        Check.that("2: a broken one is not off", 12, x.login(4));
        Check.that("2: on", 1, x.ofStream(4, 0));
        x.available(4, 7);
        x.logout(4);
        x.login(4);
        Check.that("2: not available", 0, x.ofStream(4, 5));
        Check.that("2: empty", 0, x.ofStream(4, 1));
        Check.badState("2: login again", () -> x.login(4));
        Check.badState("2: login of a broken one", () -> x.login(3));
    }

    private static void pull() {
        Twinchat x = new Twinchat();
        x.login(0);
        x.login(2);
        Check.that("3: nothing there", 0, x.pull(2, 99));
        for (int k = 0; k < 101; k++) x.send(0, 1, 0);
        Check.that("3: one", 1, x.pull(2, 1));
        Check.that("3: received", 2, x.fate(1, 1));
        Check.that("3: not yet", -1, x.fate(2, 1));
        Check.that("3: inbox", "m 1 0.0", x.inbox(2, 0));
        Check.that("3: numbers of two signs", "m 10 0.0", x.due(2, 8));
        Check.that("3: numbers of three signs", "m 100 0.0", x.due(2, 98));
        Check.that("3: at most 99", 99, x.pull(2, 99));
        Check.that("3: the last", 1, x.pull(2, 99));
        Check.that("3: pulled", 101, x.ofStream(2, 2));
        Check.that("3: all received", 101, x.house(1));
        x.logout(2);
        x.login(2);
        Check.that("3: the inbox stays", 101, x.ofStream(2, 4));
    }

    private static void pullOfPresence() {
        Twinchat x = friends();
        x.available(7, 3);
        x.carryAll();
        x.pull(0, 2);
        Check.that("3: begin and yes show nobody", "-", x.sees(0, 6));
        x.pull(0, 99);
        Check.that("3: sees", "2", x.sees(0, 6));
        Check.that("3: sees the other", "3", x.sees(0, 7));
        x.unavailable(7);
        x.carryAll();
        Check.that("3: not before it is pulled", "3", x.sees(0, 7));
        x.pull(0, 1);
        Check.that("3: off", "-", x.sees(0, 7));
        Check.that("3: off was of one", "2", x.sees(0, 6));
        x.deny(6, 0);
        x.carryAll();
        x.pull(0, 99);
        Check.that("3: no", "-", x.sees(0, 6));
        Twinchat y = friends();
        y.pull(0, 99);
        y.logout(0);
        y.login(0);
        Check.that("3: what was seen is seen till begin", "2", y.sees(0, 6));
        y.unavailable(6);
        y.carryAll();
        y.available(0, 0);
        y.carryAll();
        y.pull(0, 99);
        Check.that("3: begin", "-", y.sees(0, 6));
    }

    /** 0.0 is SUBSCRIBED TO USER 3; 0.0 and 3.0 are AVAILABLE (1 and 2). */
    private static Twinchat friends() {
        Twinchat x = new Twinchat();
        x.login(0);
        x.login(6);
        x.login(7);
        x.available(0, 1);
        x.available(6, 2);
        x.subscribe(0, 3);
        x.carryAll();
        x.approve(6, 0);
        x.carryAll();
        return x;
    }

    private static void ack() {
        Twinchat x = new Twinchat();
        x.login(0);
        x.login(2);
        Check.that("4: nothing", 0, x.ack(2));
        for (int k = 0; k < 3; k++) x.send(0, 1, 0);
        x.pull(2, 2);
        Check.that("4: before", 0, x.ofStream(2, 3));
        Check.that("4: ack", 2, x.ack(2));
        Check.that("4: acked", 2, x.ofStream(2, 3));
        x.pull(2, 1);
        Check.that("4: pull does not ack", 2, x.ofStream(2, 3));
        x.breaks(2);
        Check.badState("4: broken", () -> x.ack(2));
    }

    private static void breaksAndResume() {
        Twinchat x = new Twinchat();
        x.login(0);
        x.login(2);
        x.available(2, 1);
        for (int k = 0; k < 3; k++) x.send(0, 1, 0);
        x.pull(2, 1);
        Check.that("5: breaks", 3, x.breaks(2));
        Check.that("5: broken", 2, x.ofStream(2, 0));
        Check.that("5: available still", 1, x.ofStream(2, 5));
        x.send(0, 1, -1);
        Check.that("5: put into a broken one", "m 4 0.0", x.due(2, 3));
        Check.badState("5: pull", () -> x.pull(2, 1));
        Check.badState("5: logout", () -> x.logout(2));
        Check.badState("5: send", () -> x.send(2, 0, 0));
        Check.that("6: resume", 4, x.resume(2));
        Check.that("6: on", 1, x.ofStream(2, 0));
        Check.that("6: pulled stays", 1, x.ofStream(2, 2));
        Check.that("6: all behind can be pulled", 4, x.pull(2, 99));
        Check.that("5: nothing behind", 0, x.breaks(2));
        Check.that("6: nothing behind", 0, x.resume(2));
        Check.badState("6: one that is on", () -> x.resume(2));
        Check.badState("6: one that is off", () -> x.resume(3));
    }

    private static void letGo() {
        Twinchat x = new Twinchat();
        x.login(0);
        x.login(2);
        for (int k = 0; k < 4; k++) x.send(0, 1, 0);
        x.pull(2, 1);
        x.ack(2);
        x.pull(2, 2);
        x.breaks(2);
        Check.that("7: behind acked", 3, x.letGo(2));
        Check.that("7: off", 0, x.ofStream(2, 0));
        Check.that("7: empty", 0, x.ofStream(2, 1));
        Check.that("7: nothing pulled of it", 0, x.ofStream(2, 2));
        Check.that("7: nothing acked of it", 0, x.ofStream(2, 3));
        for (int k = 0; k < 3; k++) Check.that("7: bounced", "b " + (k + 2) + " gone", x.due(0, k));
        Check.that("7: not the first", 0, x.fate(1, 2));
        Check.that("7: received and bounced", 2, x.fate(2, 1));
        Check.that("7: bounced", 1, x.fate(2, 2));
        Check.that("7: never received", -1, x.fate(4, 1));
        Check.that("7: not anew", 0, x.fate(4, 4));
        Check.that("7: sound", true, x.isSound());
        Check.badState("7: one that is on", () -> x.letGo(0));
        Check.badState("7: one that is off", () -> x.letGo(2));
        bouncesComeLast();
    }

    private static void bouncesComeLast() {
        Twinchat x = friends();
        x.login(4);
        x.send(0, 3, 0);
        x.carryAll();
        x.subscribe(4, 3);
        x.carryAll();
        x.approve(6, 2);
        x.carryAll();
        x.breaks(6);
        Check.that("7: of the other server", 1, x.letGo(6));
        Check.that("7: off first", "p 3.0 off to 0", x.onLink(1, 0));
        Check.that("7: to each", "p 3.0 off to 2", x.onLink(1, 1));
        Check.that("7: then the room", "leave 3.0 to g0", x.onLink(1, 2));
        Check.that("7: then the bounce", "b 1 gone to 0.0", x.onLink(1, 3));
    }

    private static void logout() {
        Twinchat x = new Twinchat();
        x.login(0);
        x.login(2);
        x.login(3);
        x.available(2, 1);
        for (int k = 0; k < 4; k++) x.send(0, 1, 0);
        x.pull(2, 2);
        x.available(3, 0);
        Check.that("8: behind pulled", 3, x.logout(2));
        Check.that("8: off", 0, x.ofStream(2, 0));
        Check.that("8: not available", 0, x.ofStream(2, 5));
        Check.that("8: no priority", -1, x.ofStream(2, 6));
        Check.that("8: to the other resource", "m 2 0.0", x.due(3, 1));
        Check.that("8: anew", 1, x.fate(2, 4));
        Check.that("8: one that was received is not", 0, x.fate(1, 4));
        Check.that("8: again", 3, x.logout(3));
        Check.that("8: anew twice", 2, x.fate(2, 4));
        Check.that("8: stored", 2, x.stored(1, 0));
        Check.that("8: sound", true, x.isSound());
        Check.badState("8: one that is off", () -> x.logout(3));
        Twinchat y = friends();
        y.logout(6);
        Check.that("8: off is told", "p 3.0 off to 0", y.onLink(1, 0));
        Check.that("8: the room is left", "leave 3.0 to g0", y.onLink(1, 1));
    }

    /** Delivered anew: what is blocked or too much bounces, behind what the act made ahead. */
    private static void logoutBounces() {
        Twinchat x = new Twinchat();
        x.login(0);
        x.login(2);
        x.login(6);
        for (int k = 0; k < 7; k++) x.send(6, 1, 0);
        x.carryAll();
        x.send(0, 1, 0);
        x.block(2, 0, true);
        Check.that("8: all count", 8, x.logout(2));
        for (int k = 0; k < 5; k++) Check.that("8: stored", k + 1, x.stored(1, k));
        Check.that("8: leave goes ahead", "leave 1.0 to g1", x.onLink(0, 0));
        Check.that("8: full", "b 6 full to 3.0", x.onLink(0, 1));
        Check.that("8: full again", "b 7 full to 3.0", x.onLink(0, 2));
        Check.that("8: blocked", "b 8 unavailable", x.due(0, 0));
        Check.that("8: bounced counts as anew", 1, x.fate(8, 4));
    }

    private static void endLeavesRooms() {
        Twinchat x = new Twinchat();
        x.login(0);
        x.login(2);
        x.login(4);
        for (int r = 0; r < 6; r += 2) {
            x.join(r, 0);
            x.join(r, 1);
        }
        x.carryAll();
        x.logout(2);
        x.breaks(4);
        x.letGo(4);
        Check.that("8: not in", -1, x.roleOf(0, 2));
        Check.that("7: not in", -1, x.roleOf(0, 4));
        Check.that("8: in the other yet", 3, x.ofRoom(1, 0));
        x.carryAll();
        Check.that("8: not in the other", -1, x.roleOf(1, 2));
        Check.that("7: not in the other", -1, x.roleOf(1, 4));
        x.pull(0, 99);
        Check.that("7: told", "out g1 2.0", x.inbox(0, 0));
        Check.that("8: an off one is told nothing", 0, x.ofStream(2, 1));
    }
}
