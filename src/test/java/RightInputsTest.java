/**
 * The smallest and the greatest argument that is right, for each argument of each promise: it is
 * taken, and answers what is due. The first ones beside them are WrongInputsTest's.
 */
public final class RightInputsTest {
    private RightInputsTest() {
    }

    public static void main(String[] args) {
        for (int r : new int[] {0, 11}) {
            streams(r);
            presence(r);
            messages(r);
            for (int g = 0; g < 2; g++) rooms(r, g);
            questions(r);
        }
        link();
        house();
        System.exit(Check.closed("RightInputsTest"));
    }

    /** RESOURCE 0 or 11, many 1 or 99. */
    private static void streams(int r) {
        Twinchat x = new Twinchat();
        Check.that("2: login", 1, x.login(r));
        Check.that("3: pull 1", 0, x.pull(r, 1));
        Check.that("3: pull 99", 0, x.pull(r, 99));
        Check.that("4: ack", 0, x.ack(r));
        Check.that("5: breaks", 0, x.breaks(r));
        Check.that("6: resume", 0, x.resume(r));
        Check.that("8: logout", 0, x.logout(r));
        Check.that("2: login again", 1, x.login(r));
        x.breaks(r);
        Check.that("7: letGo", 0, x.letGo(r));
    }

    /** RESOURCE 0 or 11, PRIORITY -5 or 9, USER 0 or 5, and the one next to its own. */
    private static void presence(int r) {
        Twinchat x = Chats.logged(r);
        int u = r / 2;
        Check.that("9: available -5", 0, x.available(r, -5));
        Check.that("9: available 9", 0, x.available(r, 9));
        Check.that("10: unavailable", 9, x.unavailable(r));
        int ask = 0;
        for (int v : new int[] {5 - u, u == 0 ? 1 : 4}) {
            ask++;
            Check.that("11: subscribe", ask, x.subscribe(r, v));
            Check.that("12: unsubscribe", ask, x.unsubscribe(r, v));
            Check.that("13: approve", -9, x.approve(r, v));
            Check.that("14: deny", -9, x.deny(r, v));
            Check.that("15: block", 1, x.block(r, v, true));
            Check.that("15: block no more", 0, x.block(r, v, false));
        }
        Twinchat y = Chats.logged(r, 11 - r);
        y.subscribe(11 - r, u);
        y.carryAll();
        Check.that("13: approve", 1, y.approve(r, 5 - u));
        Check.that("14: deny", 1, y.deny(r, 5 - u));
    }

    /** RESOURCE 0 or 11, USER 0 or 5, and the one next to its own, which -1 or 1. */
    private static void messages(int r) {
        Twinchat x = Chats.logged(r);
        int number = 0;
        for (int v : new int[] {5 - r / 2, r / 2 == 0 ? 1 : 4}) {
            for (int which = -1; which <= 1; which++) {
                number++;
                Check.that("16: send", number, x.send(r, v, which));
            }
        }
    }

    /** RESOURCE and other 0 or 11, ROOM 0 or 1, ROLE 0 or 1, USER 0 or 5, AFFILIATION 0, 1 or 3. */
    private static void rooms(int r, int g) {
        Twinchat x = Chats.logged(r);
        boolean isHome = r / 6 == g;
        int count = 0;
        Check.that("17: join", isHome ? 0 : ++count, x.join(r, g));
        Check.that("19: say", isHome ? 0 : ++count, x.say(r, g));
        for (int other : new int[] {0, 11}) {
            Check.that("20: kick", isHome ? 0 : ++count, x.kick(r, g, other));
            for (int role = 0; role <= 1; role++) {
                Check.that("21: role", isHome ? 0 : ++count, x.role(r, g, other, role));
            }
        }
        for (int user : new int[] {0, 5}) {
            for (int rank : new int[] {0, 1, 3}) {
                Check.that("22: member", isHome ? 0 : ++count, x.member(r, g, user, rank));
            }
        }
        Check.that("23: moderate", isHome ? 0 : ++count, x.moderate(r, g, true));
        Check.that("23: moderate no more", isHome ? 0 : ++count, x.moderate(r, g, false));
        Check.that("18: leave", isHome ? 0 : ++count, x.leave(r, g));
    }

    /** What is asked of RESOURCE 0 or 11, USER 0 or 5, ROOM 0 or 1, by the first what and the last. */
    private static void questions(int r) {
        Twinchat x = Chats.logged(r);
        int u = r / 2;
        Check.that("30: what 0", 1, x.ofStream(r, 0));
        Check.that("30: what 6", -1, x.ofStream(r, 6));
        Check.that("31: inbox", "-", x.inbox(r, 0));
        Check.that("32: due", "-", x.due(r, 0));
        Check.that("33: sees", "-", x.sees(r, 11 - r));
        Check.that("34: to", 0, x.to(u, 5 - u));
        Check.that("35: from", 0, x.from(u, 5 - u));
        Check.that("36: asked", -1, x.asked(u, 5 - u, true));
        Check.that("36: asked", -1, x.asked(u, 5 - u, false));
        Check.that("37: blocks", false, x.blocks(u, 5 - u));
        Check.that("38: stored", -1, x.stored(u, 0));
        x.send(r, 5 - u, 0);
        Check.that("39: what 0", r, x.fate(1, 0));
        Check.that("39: what 4", 0, x.fate(1, 4));
        for (int g = 0; g < 2; g++) {
            Check.that("41: what 0", 0, x.ofRoom(g, 0));
            Check.that("41: what 2", 0, x.ofRoom(g, 2));
            Check.that("42: occupant", -1, x.occupant(g, 0));
            Check.that("43: roleOf", -1, x.roleOf(g, r));
            Check.that("44: affiliation", u == 3 * g ? 2 : 0, x.affiliation(g, u));
            Check.that("45: said", -1, x.said(g, 1));
        }
    }

    /** SERVER 0 or 1, many 1 or 99. */
    private static void link() {
        Twinchat x = new Twinchat();
        for (int server = 0; server < 2; server++) {
            Check.that("26: key", 40, x.key(server));
            Check.that("27: prove", true, x.prove(server, 40));
            Check.that("28: carry 1", 0, x.carry(server, 1));
            Check.that("28: carry 99", 0, x.carry(server, 99));
            Check.that("40: onLink", "-", x.onLink(server, 0));
        }
    }

    private static void house() {
        Twinchat x = new Twinchat();
        Check.that("47: what 0", 0, x.house(0));
        Check.that("47: what 9", 0, x.house(9));
    }
}
