/** Promises 46 to 50: the house, and its checksum. */
public final class HouseTest {
    private HouseTest() {
    }

    public static void main(String[] args) {
        isStill();
        house();
        knock();
        isSound();
        digest();
        digestOfAll();
        System.exit(Check.closed("HouseTest"));
    }

    private static void isStill() {
        Twinchat x = new Twinchat();
        Check.that("46: at first", true, x.isStill());
        x.login(0);
        x.login(6);
        x.send(0, 3, 0);
        Check.that("46: from 0", false, x.isStill());
        x.carryAll();
        x.send(0, 1, 0);
        Check.that("46: what stays at its server", true, x.isStill());
        x.send(6, 0, 0);
        Check.that("46: from 1", false, x.isStill());
        x.fail();
        Check.that("46: down", false, x.isStill());
    }

    private static void house() {
        Twinchat x = new Twinchat();
        x.login(0);
        x.login(2);
        x.login(6);
        x.send(0, 1, 0);
        x.send(0, 1, 0);
        x.send(0, 3, 0);
        x.send(0, 3, 0);
        x.send(6, 0, 0);
        x.pull(2, 1);
        x.breaks(2);
        x.letGo(2);
        x.carry(1, 1);
        x.subscribe(0, 1);
        x.subscribe(0, 1);
        x.unavailable(0);
        x.raise();
        x.knock();
        // the two letters to USER 3, and "leave" of 1.0; behind letGo the two of 1.0 are bounced
        int[] due = {5, 1, 2, 3, 0, 1, 1, 1, 3, 1};
        for (int what = 0; what < 10; what++) Check.that("47: " + what, due[what], x.house(what));
        x.send(6, 0, 0);
        Check.that("47: 4", 1, x.house(4));
        x.fail();
        Check.that("47: 5", 0, x.house(5));
        Check.that("47: 6", 0, x.house(6));
        x.raise();
        Check.that("47: 5", 1, x.house(5));
        Check.that("47: 6", 0, x.house(6));
        Check.badArgument("47: above", () -> x.house(10));
        Check.badArgument("47: below", () -> x.house(-1));
    }

    private static void knock() {
        Twinchat x = new Twinchat();
        Check.that("48: first", 1, x.knock());
        Check.that("48: second", 2, x.knock());
        Check.that("48: counted", 2, x.house(9));
        Check.that("48: of one alone", 0, new Twinchat().house(9));
    }

    private static void isSound() {
        Twinchat x = new Twinchat();
        Check.that("49: at first", true, x.isSound());
        for (int r = 0; r < 12; r++) x.login(r);
        for (int r = 0; r < 12; r++) x.available(r, r - 5 > 4 ? 4 : r - 5);
        for (int u = 0; u < 6; u++) {
            for (int v = 0; v < 6; v++) if (u != v) x.subscribe(2 * u, v);
        }
        Check.that("49: with asks on the link", true, x.isSound());
        x.carryAll();
        Check.that("49: asked", true, x.isSound());
        for (int u = 0; u < 6; u++) {
            for (int v = 0; v < 6; v++) if (u != v) x.approve(2 * u + 1, v);
        }
        x.carryAll();
        Check.that("49: all see all, before they pull", true, x.isSound());
        for (int r = 0; r < 12; r++) x.pull(r, 99);
        Check.that("49: and after", true, x.isSound());
        Check.that("49: seen", "4", x.sees(0, 11));
        x.block(0, 5, true);
        x.send(1, 4, -1);
        x.send(1, 1, 0);
        x.carryAll();
        x.breaks(8);
        x.letGo(8);
        x.pull(2, 99);
        Check.that("49: let go and received", true, x.isSound());
    }

    /** A house in which something is everywhere: the checksum of what the face tells of it. */
    private static void digestOfAll() {
        Twinchat x = new Twinchat();
        for (int r = 0; r < 11; r++) x.login(r);
        for (int r = 0; r < 8; r++) x.available(r, 3 - r);
        x.subscribe(0, 3);
        x.subscribe(8, 1);
        x.carryAll();
        x.approve(6, 0);
        x.carryAll();
        x.pull(0, 99);
        x.ack(0);
        x.subscribe(2, 3);
        x.block(4, 5, true);
        for (int k = 0; k < 3; k++) x.send(8, 5, 1);
        x.send(2, 0, 0);
        x.send(9, 0, 0);
        x.carry(1, 1);
        x.pull(0, 1);
        x.join(0, 0);
        x.join(2, 0);
        x.say(2, 0);
        x.say(0, 0);
        x.member(0, 0, 5, 3);
        x.moderate(6, 1, true);
        x.leave(6, 0);
        x.breaks(6);
        x.raise();
        x.knock();
        Check.that("50: of all", Whole.digest(x), x.digest());
        x.fail();
        Check.that("50: down", Whole.digest(x), x.digest());
        x.raise();
        Check.that("50: another key", Whole.digest(x), x.digest());
    }

    private static void digest() {
        // 7676, then the values of promise 50, by hand: house, 12 streams, 36 pairs, 30 stored, keys, rooms, sound
        long d = 7676;
        for (int v : new int[] {0, 0, 0, 0, 0, 1, 1, 0, 0, 0}) d = d * 31 + v;
        for (int r = 0; r < 12; r++) {
            for (int v : new int[] {0, 0, 0, 0, 0, 0, -1}) d = d * 31 + v;
            for (int s = 0; s < 12; s++) d = d * 31 + '-';
        }
        for (int k = 0; k < 36; k++) for (int v : new int[] {0, 0, -1, -1, 0}) d = d * 31 + v;
        for (int k = 0; k < 30; k++) d = d * 31 - 1;
        d = (d * 31 + 40) * 31 + 40;
        for (int g = 0; g < 2; g++) {
            for (int v : new int[] {0, 0, 0, -1, -1, -1, -1, -1}) d = d * 31 + v;
            for (int u = 0; u < 6; u++) d = d * 31 + (u == 3 * g ? 2 : 0);
        }
        d = d * 31 + 1;
        Twinchat x = new Twinchat();
        Check.that("50: a new one", d, x.digest());
        Check.that("50: again", d, x.digest());
        x.knock();
        Check.that("50: a knock is in it", false, d == x.digest());
    }
}
