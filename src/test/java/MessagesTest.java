/** Promise 16, with what comes of a MESSAGE: received, stored, bounced. */
public final class MessagesTest {
    private MessagesTest() {
    }

    public static void main(String[] args) {
        toUser();
        toResource();
        blocked();
        full();
        overLink();
        bounceToOneThatIsOff();
        System.exit(Check.closed("MessagesTest"));
    }

    private static void toUser() {
        Twinchat x = Chats.logged(0, 2, 3);
        Check.that("16: the first", 1, x.send(0, 1, -1));
        Check.that("16: none is available", 1, x.stored(1, 0));
        x.available(2, -1);
        x.send(0, 1, -1);
        Check.that("16: below 0 is none", 2, x.stored(1, 1));
        x.available(3, 0);
        x.send(0, 1, -1);
        Check.that("16: 0 is one", "m 3 0.0", x.due(3, 3));
        x.available(2, 0);
        x.send(0, 1, -1);
        Check.that("16: of several the first", "m 4 0.0", x.due(2, 1));
        x.available(3, 9);
        x.send(0, 1, -1);
        Check.that("16: the greatest", "m 5 0.0", x.due(3, 4));
        x.breaks(3);
        x.send(0, 1, -1);
        Check.that("16: a broken one too", "m 6 0.0", x.due(3, 5));
        Check.that("16: sent", 6, x.house(0));
        Check.that("16: sender", 0, x.fate(6, 0));
        Check.that("16: sound", true, x.isSound());
    }

    private static void toResource() {
        Twinchat x = Chats.logged(0, 2);
        x.send(0, 1, 0);
        Check.that("16: not available, but on", "m 1 0.0", x.due(2, 0));
        x.send(0, 1, 1);
        Check.that("16: off: to the user", 2, x.stored(1, 0));
        x.available(2, 3);
        x.send(0, 1, 1);
        Check.that("16: off: to the other one", "m 3 0.0", x.due(2, 3));
        x.breaks(2);
        x.send(0, 1, 0);
        Check.that("16: broken", "m 4 0.0", x.due(2, 4));
        Check.that("16: sound", true, x.isSound());
    }

    private static void blocked() {
        Twinchat x = Chats.logged(0, 2);
        x.block(2, 0, true);
        x.send(0, 1, 0);
        x.send(0, 1, -1);
        x.send(0, 1, 1);
        for (int k = 0; k < 3; k++) Check.that("16: bounced", "b " + (k + 1) + " unavailable", x.due(0, k));
        Check.that("16: fate", 1, x.fate(3, 2));
        Check.that("16: not stored", -1, x.stored(1, 0));
        Check.that("16: refused to one that it blocks", -9, x.send(2, 0, -1));
        Check.that("16: no number for that", 3, x.house(0));
        Check.that("16: counted", 1, x.house(8));
        Check.that("16: bounced", 3, x.house(2));
        x.block(2, 0, false);
        Check.that("16: the next number", 4, x.send(2, 0, -1));
    }

    private static void full() {
        Twinchat x = Chats.logged(0, 2);
        for (int k = 1; k <= 7; k++) x.send(0, 2, -1);
        for (int k = 0; k < 5; k++) Check.that("16: stored", k + 1, x.stored(2, k));
        Check.that("16: no more", -1, x.stored(2, 5));
        Check.that("16: full", "b 6 full", x.due(0, 0));
        Check.that("16: full", "b 7 full", x.due(0, 1));
        x.send(0, 1, -1);
        Check.that("16: another user is not full", 8, x.stored(1, 0));
        Check.that("16: stored", 1, x.fate(5, 3));
        Check.that("16: not stored", 0, x.fate(6, 3));
        Check.that("16: sound", true, x.isSound());
    }

    private static void overLink() {
        Twinchat x = Chats.logged(0, 10);
        x.send(0, 5, -1);
        x.send(0, 5, 1);
        x.send(10, 0, 0);
        Check.that("16: to a user", "m 1 0.0 to 5", x.onLink(0, 0));
        Check.that("16: to a resource", "m 2 0.0 to 5.1", x.onLink(0, 1));
        Check.that("16: back", "m 3 5.0 to 0.0", x.onLink(1, 0));
        Check.that("16: sound on the link", true, x.isSound());
        x.block(0, 5, true);
        x.carryAll();
        Check.that("16: bounced", "b 3 unavailable", x.due(10, 0));
        Check.that("16: nothing is lost", 2, x.stored(5, 1));
    }

    private static void bounceToOneThatIsOff() {
        Twinchat x = Chats.logged(0, 6);
        x.block(6, 0, true);
        x.send(0, 3, 0);
        x.logout(0);
        x.carryAll();
        x.login(0);
        Check.that("16: the bounce is not kept", 0, x.ofStream(0, 1));
        Check.that("16: bounced", 1, x.fate(1, 2));
        Check.that("16: sound", true, x.isSound());
        x.send(0, 3, 0);
        x.breaks(0);
        x.carryAll();
        Check.that("16: a broken one has it", "b 2 unavailable", x.due(0, 0));
    }
}
