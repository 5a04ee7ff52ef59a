/** Promises 30 to 45: what is asked, with the edges that each names. */
public final class AskedTest {
    private AskedTest() {
    }

    public static void main(String[] args) {
        ofStream();
        inboxAndDue();
        sees();
        bonds();
        blocks();
        stored();
        fate();
        onLink();
        rooms();
        nothingChanges();
        System.exit(Check.closed("AskedTest"));
    }

    /** A house in which something is everywhere. */
    private static Twinchat house() {
        Twinchat x = new Twinchat();
        for (int r = 0; r < 12; r += 2) x.login(r);
        x.available(0, -1);
        x.available(6, 9);
        x.subscribe(0, 3);
        x.carryAll();
        x.approve(6, 0);
        x.carryAll();
        x.pull(0, 99);
        x.ack(0);
        x.send(6, 0, 0);
        x.send(6, 0, -1);
        x.carryAll();
        x.pull(0, 1);
        x.subscribe(0, 4);
        x.send(0, 3, 1);
        x.block(4, 5, true);
        x.join(2, 0);
        x.join(0, 0);
        x.say(2, 0);
        return x;
    }

    private static void ofStream() {
        Twinchat x = house();
        int[] due = {1, 7, 4, 3, 4, 1, -1};
        for (int what = 0; what < 7; what++) Check.that("30: " + what, due[what], x.ofStream(0, what));
        x.breaks(0);
        Check.that("30: broken", 2, x.ofStream(0, 0));
        Check.that("30: nothing", 0, x.ofStream(1, 1));
        Check.that("30: priority", 9, x.ofStream(6, 6));
        Check.that("30: not available", -1, x.ofStream(8, 6));
        Check.that("30: not available", 0, x.ofStream(8, 5));
    }

    private static void inboxAndDue() {
        Twinchat x = house();
        Check.that("31: the last", "m 1 3.0", x.inbox(0, 0));
        Check.that("31: back", "p 3.0 9", x.inbox(0, 1));
        Check.that("31: the first", "begin", x.inbox(0, 3));
        Check.that("31: not so many", "-", x.inbox(0, 4));
        Check.that("31: below 0", "-", x.inbox(0, -1));
        Check.that("31: far out", "-", x.inbox(0, Integer.MAX_VALUE));
        Check.that("31: far out", "-", x.inbox(0, Integer.MIN_VALUE));
        Check.that("31: empty", "-", x.inbox(1, 0));
        Check.that("32: the next", "in g0 1.0 1", x.due(0, 0));
        Check.that("32: the last", "said g0 1 1.0", x.due(0, 2));
        Check.that("32: not so many", "-", x.due(0, 3));
        Check.that("32: below 0", "-", x.due(0, -1));
        Check.that("32: far out", "-", x.due(0, Integer.MAX_VALUE));
        Check.that("32: far out", "-", x.due(0, Integer.MIN_VALUE));
        Check.that("32: off", "-", x.due(1, 0));
    }

    private static void sees() {
        Twinchat x = house();
        Check.that("33: sees", "9", x.sees(0, 6));
        Check.that("33: the other way", "-", x.sees(6, 0));
        Check.that("33: itself", "-", x.sees(0, 0));
        x.available(6, -5);
        x.carryAll();
        Check.that("33: as it pulled", "9", x.sees(0, 6));
        x.pull(0, 99);
        Check.that("33: below 0", "-5", x.sees(0, 6));
    }

    private static void bonds() {
        Twinchat x = house();
        Check.that("34: subscribed", 2, x.to(0, 3));
        Check.that("34: asked", 1, x.to(0, 4));
        Check.that("34: nothing", 0, x.to(3, 0));
        Check.that("35: subscribed", 2, x.from(3, 0));
        Check.that("35: not come yet", 0, x.from(4, 0));
        Check.that("35: nothing", 0, x.from(0, 3));
        Check.that("36: of to", 1, x.asked(0, 3, true));
        Check.that("36: of to", 2, x.asked(0, 4, true));
        Check.that("36: of from", 1, x.asked(3, 0, false));
        Check.that("36: without", -1, x.asked(0, 3, false));
        Check.that("36: without", -1, x.asked(4, 0, false));
        for (int u = 0; u < 6; u++) {
            Check.that("34: of itself", 0, x.to(u, u));
            Check.that("35: of itself", 0, x.from(u, u));
            Check.that("36: of itself", -1, x.asked(u, u, true));
            Check.that("36: of itself", -1, x.asked(u, u, false));
        }
    }

    private static void blocks() {
        Twinchat x = house();
        for (int u = 0; u < 6; u++) {
            for (int v = 0; v < 6; v++) Check.that("37: " + u + v, u == 2 && v == 5, x.blocks(u, v));
        }
    }

    private static void stored() {
        Twinchat x = house();
        Check.that("38: the first", 2, x.stored(0, 0));
        Check.that("38: without", -1, x.stored(0, 1));
        Check.that("38: below 0", -1, x.stored(0, -1));
        Check.that("38: far out", -1, x.stored(0, Integer.MAX_VALUE));
        Check.that("38: far out", -1, x.stored(5, Integer.MIN_VALUE));
        Check.that("38: of another", -1, x.stored(1, 0));
    }

    private static void fate() {
        Twinchat x = house();
        int[][] due = {{6, 0, 0, 0, 0}, {6, -1, 0, 1, 0}, {0, -1, 0, 0, 0}};
        for (int number = 1; number <= 3; number++) {
            for (int what = 0; what < 5; what++) {
                Check.that("39: " + number + " " + what, due[number - 1][what], x.fate(number, what));
            }
        }
        Check.that("39: no such", -2, x.fate(4, 0));
        Check.that("39: no such", -2, x.fate(0, 4));
        Check.that("39: no such", -2, x.fate(-1, 1));
        Check.that("39: no such", -2, x.fate(Integer.MAX_VALUE, 1));
        Check.that("39: no such", -2, x.fate(Integer.MIN_VALUE, 1));
        Check.badArgument("39: the exception goes ahead", () -> x.fate(4, 5));
        x.logout(0);
        Check.that("39: that was received stays so", 0, x.fate(1, 1));
    }

    private static void onLink() {
        Twinchat x = house();
        Check.that("40: the first", "ask 2 0 to 4", x.onLink(0, 0));
        Check.that("40: the next", "m 3 0.0 to 3.1", x.onLink(0, 1));
        Check.that("40: not so many", "-", x.onLink(0, 2));
        Check.that("40: below 0", "-", x.onLink(0, -1));
        Check.that("40: far out", "-", x.onLink(0, Integer.MAX_VALUE));
        Check.that("40: far out", "-", x.onLink(0, Integer.MIN_VALUE));
        Check.that("40: the other way", "-", x.onLink(1, 0));
        Check.that("46: not still", false, x.isStill());
        x.carry(0, 1);
        Check.that("40: the rest", "m 3 0.0 to 3.1", x.onLink(0, 0));
    }

    private static void rooms() {
        Twinchat x = house();
        Check.that("41: in", 2, x.ofRoom(0, 0));
        Check.that("41: said", 1, x.ofRoom(0, 1));
        Check.that("41: moderated", 0, x.ofRoom(0, 2));
        Check.that("41: the other one", 0, x.ofRoom(1, 0));
        x.moderate(0, 0, true);
        Check.that("41: moderated", 1, x.ofRoom(0, 2));
        Check.that("42: first", 2, x.occupant(0, 0));
        Check.that("42: second", 0, x.occupant(0, 1));
        for (int k : new int[] {2, -1, 5, Integer.MAX_VALUE, Integer.MIN_VALUE}) {
            Check.that("42: none", -1, x.occupant(0, k));
        }
        Check.that("43: moderator", 2, x.roleOf(0, 0));
        Check.that("43: participant", 1, x.roleOf(0, 2));
        Check.that("43: not in", -1, x.roleOf(0, 4));
        Check.that("43: not in the other", -1, x.roleOf(1, 0));
        Check.that("44: owner", 2, x.affiliation(0, 0));
        Check.that("44: none", 0, x.affiliation(1, 0));
        x.member(0, 0, 5, 3);
        x.member(0, 0, 4, 1);
        Check.that("44: outcast", 3, x.affiliation(0, 5));
        Check.that("44: member", 1, x.affiliation(0, 4));
        Check.that("45: said", 2, x.said(0, 1));
        for (int k : new int[] {0, 2, -1, Integer.MAX_VALUE, Integer.MIN_VALUE}) {
            Check.that("45: none", -1, x.said(0, k));
        }
        Check.that("45: none", -1, x.said(1, 1));
    }

    private static void nothingChanges() {
        Twinchat x = house();
        long before = x.digest();
        x.inbox(0, 0);
        x.due(0, 0);
        x.sees(0, 6);
        x.onLink(0, 0);
        x.fate(1, 0);
        x.stored(0, 0);
        x.key(0);
        x.isSound();
        Check.that("50: what is asked changes nothing", before, x.digest());
    }
}
