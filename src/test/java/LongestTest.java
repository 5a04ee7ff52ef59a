/** "An object is used for at most 512 calls": what is the most that they can make, the last of them too. */
public final class LongestTest {
    private static final int MOST_CALLS = 512;

    private LongestTest() {
    }

    public static void main(String[] args) {
        mostMessages();
        mostOnTheLink();
        mostSayings();
        mostAsks();
        mostLinkNumbers();
        mostKnocks();
        mostPresence();
        System.exit(Check.closed("LongestTest"));
    }

    private static void mostMessages() {
        Twinchat x = Chats.logged(0, 2);
        for (int k = 3; k <= MOST_CALLS; k++) Check.that("16: number", k - 2, x.send(0, 1, 0));
        Check.that("16: the last", "m 510 0.0", x.due(2, 509));
        Check.that("39: who sent it", 0, x.fate(510, 0));
        Check.that("39: no such", -2, x.fate(511, 0));
        Check.that("47: sent", 510, x.house(0));
        Check.that("49: sound", true, x.isSound());
        Check.that("50: digest", Whole.digest(x), x.digest());
    }

    private static void mostOnTheLink() {
        Twinchat x = Chats.logged(0);
        for (int k = 2; k < MOST_CALLS; k++) x.send(0, 3, -1);
        Check.that("47: on the link", 510, x.house(3));
        Check.that("29: all but five bounce, and come back", 510 + 505, x.carryAll());
        Check.that("47: bounced", 505, x.house(2));
        Check.that("38: the fifth", 5, x.stored(3, 4));
        Check.that("32: the last bounce", "b 510 full", x.due(0, 504));
        Check.that("49: sound", true, x.isSound());
    }

    private static void mostSayings() {
        Twinchat x = Chats.logged(0, 2);
        x.join(0, 0);
        for (int k = 4; k < MOST_CALLS; k++) x.say(0, 0);
        x.join(2, 0);
        Check.that("41: history", 508, x.ofRoom(0, 1));
        Check.that("45: the last", 0, x.said(0, 508));
        Check.that("45: no more", -1, x.said(0, 509));
        Check.that("17: the last three", "in g0 0.0 2; in g0 1.0 1; said g0 506 0.0; said g0 507 0.0; said g0 508 0.0; ", Chats.dues(x, 2));
        Check.that("50: digest", Whole.digest(x), x.digest());
    }

    private static void mostAsks() {
        Twinchat x = Chats.logged(0);
        for (int ask = 1; ask <= 255; ask++) {
            Check.that("11: number", ask, x.subscribe(0, 3));
            Check.that("12: number", ask, x.unsubscribe(0, 3));
        }
        Check.that("47: asks", 255, x.house(7));
        Check.that("40: the last", "end 255 0 to 3", x.onLink(0, 509));
    }

    private static void mostLinkNumbers() {
        Twinchat x = new Twinchat();
        for (int number = 2; number <= 256; number++) {
            x.fail();
            Check.that("25: number", number, x.raise());
        }
        Check.that("26: 4352 and 23 are 45 times 97 and 10", 10, x.key(0));
        Check.that("26: 5888 and 17 are 60 times 97 and 85", 85, x.key(1));
    }

    private static void mostKnocks() {
        Twinchat x = new Twinchat();
        for (int k = 1; k <= MOST_CALLS; k++) Check.that("48: knock", k, x.knock());
    }

    /** All are friends of all: what each act tells goes to all of them, again and again. */
    private static void mostPresence() {
        Twinchat x = new Twinchat();
        for (int r = 0; r < 12; r++) x.login(r);
        for (int r = 0; r < 12; r++) x.available(r, 0);
        for (int r = 0; r < 12; r += 2) for (int v = 0; v < 6; v++) if (v != r / 2) x.subscribe(r, v);
        x.carryAll();
        for (int r = 0; r < 12; r += 2) for (int v = 0; v < 6; v++) if (v != r / 2) x.approve(r, v);
        x.carryAll();
        int calls = 24 + 30 + 1 + 30 + 1;
        for (int k = 0; calls < MOST_CALLS - 2; k++, calls += 2) {
            x.unavailable(k % 12);
            x.available(k % 12, k % 10);
        }
        x.carryAll();
        Check.that("46: still", true, x.isStill());
        Check.that("49: sound", true, x.isSound());
        for (int r = 0; r < 12; r++) Chats.pulled(x, r);
        for (int r = 0; r < 12; r++) {
            for (int s = 0; s < 12; s++) Check.that("33: sees", r / 2 == s / 2 ? "-" : "" + x.ofStream(s, 6), x.sees(r, s));
        }
        Check.that("50: digest", Whole.digest(x), x.digest());
    }
}
