/** Promises 17 to 23: rooms. */
public final class RoomsTest {
    private RoomsTest() {
    }

    public static void main(String[] args) {
        join();
        joinFull();
        joinTellsHistory();
        leave();
        say();
        kick();
        role();
        member();
        moderate();
        overLink();
        System.exit(Check.closed("RoomsTest"));
    }

    private static void join() {
        Twinchat x = Chats.logged(0, 2, 4);
        Check.that("17: nothing on the link", 0, x.join(0, 0));
        Check.that("17: an owner", 2, x.roleOf(0, 0));
        Check.that("17: told of itself", "in g0 0.0 2; ", Chats.pulled(x, 0));
        x.moderate(0, 0, true);
        x.join(2, 0);
        Check.that("17: a visitor", 0, x.roleOf(0, 2));
        Check.that("17: those ahead, then all", "in g0 0.0 2; in g0 1.0 0; ", Chats.pulled(x, 2));
        x.member(0, 0, 2, 1);
        x.join(4, 0);
        Check.that("17: a member", 1, x.roleOf(0, 4));
        Check.that("17: those ahead have their roles", "in g0 0.0 2; in g0 1.0 0; in g0 2.0 1; ", Chats.pulled(x, 4));
        Check.that("17: all are told", "in g0 1.0 0; in g0 2.0 1; ", Chats.pulled(x, 0));
        x.join(2, 0);
        Check.that("17: in already", "in g0 2.0 1; not g0 in; ", Chats.pulled(x, 2));
        Check.that("17: three", 3, x.ofRoom(0, 0));
        x.moderate(0, 0, false);
        x.leave(2, 0);
        x.join(2, 0);
        Check.that("17: not moderated", 1, x.roleOf(0, 2));
        Check.that("17: the last", 2, x.occupant(0, 2));
        Check.that("17: to the other server", 1, x.join(0, 1));
        Check.that("17: text", "join 0.0 to g1", x.onLink(0, 0));
    }

    private static void joinFull() {
        Twinchat x = Chats.logged(0, 1, 2, 3, 4, 5);
        for (int r = 0; r < 5; r++) x.join(r, 0);
        for (int r = 0; r < 5; r++) Check.that("17: as they came", r, x.occupant(0, r));
        Chats.pulled(x, 0);
        x.join(5, 0);
        Check.that("17: full", "not g0 full; ", Chats.pulled(x, 5));
        Check.that("17: nobody is told", "", Chats.pulled(x, 0));
        x.join(3, 0);
        Check.that("17: in goes ahead of full", "not g0 in", x.due(3, x.ofStream(3, 1) - 1));
        x.member(0, 0, 2, 3);
        Check.that("17: four", 4, x.ofRoom(0, 0));
        x.join(5, 0);
        Check.that("17: forbidden", "not g0 forbidden; ", Chats.pulled(x, 5));
        x.member(0, 0, 2, 0);
        x.join(5, 0);
        Check.that("17: in", 5, x.occupant(0, 4));
    }

    private static void joinTellsHistory() {
        Twinchat x = Chats.logged(0, 2, 4);
        x.join(0, 0);
        x.join(2, 0);
        x.say(0, 0);
        x.say(2, 0);
        x.join(4, 0);
        Check.that("17: two", "in g0 0.0 2; in g0 1.0 1; in g0 2.0 1; said g0 1 0.0; said g0 2 1.0; ", Chats.pulled(x, 4));
        x.leave(4, 0);
        x.say(0, 0);
        x.say(0, 0);
        Chats.pulled(x, 4);
        x.join(4, 0);
        Check.that("17: the last three",
                "in g0 0.0 2; in g0 1.0 1; in g0 2.0 1; said g0 2 1.0; said g0 3 0.0; said g0 4 0.0; ", Chats.pulled(x, 4));
    }

    private static void leave() {
        Twinchat x = Chats.logged(0, 2, 4);
        x.join(0, 0);
        x.join(2, 0);
        x.join(4, 0);
        Chats.pulled(x, 0);
        Chats.pulled(x, 2);
        Chats.pulled(x, 4);
        Check.that("18: leave", 0, x.leave(2, 0));
        Check.that("18: all are told", "out g0 1.0; ", Chats.pulled(x, 0));
        Check.that("18: itself too", "out g0 1.0; ", Chats.pulled(x, 2));
        Check.that("18: not in", -1, x.roleOf(0, 2));
        Check.that("18: the others move up", 4, x.occupant(0, 1));
        Check.that("18: with their roles", 1, x.roleOf(0, 4));
        Check.that("18: none behind", -1, x.occupant(0, 2));
        x.leave(2, 0);
        Check.that("18: one that is not in", "", Chats.pulled(x, 2));
        Check.that("18: is not told", "out g0 1.0; ", Chats.pulled(x, 4));
        Check.that("18: to the other server", 1, x.leave(0, 1));
        Check.that("18: text", "leave 0.0 to g1", x.onLink(0, 0));
    }

    private static void say() {
        Twinchat x = Chats.logged(0, 2);
        Check.that("19: say", 0, x.say(0, 0));
        Check.that("19: not in", "not g0 in; ", Chats.pulled(x, 0));
        x.join(0, 0);
        x.moderate(0, 0, true);
        x.join(2, 0);
        Chats.pulled(x, 0);
        Chats.pulled(x, 2);
        x.say(2, 0);
        Check.that("19: a visitor", "not g0 voice; ", Chats.pulled(x, 2));
        Check.that("19: no history", 0, x.ofRoom(0, 1));
        x.say(0, 0);
        Check.that("19: said", "said g0 1 0.0; ", Chats.pulled(x, 2));
        Check.that("19: to itself too", "said g0 1 0.0; ", Chats.pulled(x, 0));
        x.role(0, 0, 2, 1);
        x.say(2, 0);
        Check.that("19: history", 2, x.ofRoom(0, 1));
        Check.that("19: who", 2, x.said(0, 2));
        Check.that("19: to the other server", 1, x.say(0, 1));
        Check.that("19: text", "say 0.0 to g1", x.onLink(0, 0));
    }

    private static void kick() {
        Twinchat x = Chats.logged(0, 1, 2, 4);
        x.join(0, 0);
        x.join(1, 0);
        x.join(2, 0);
        Chats.pulled(x, 0);
        Chats.pulled(x, 2);
        x.kick(2, 0, 0);
        Check.that("20: no moderator", "not g0 right; ", Chats.pulled(x, 2));
        x.kick(0, 0, 1);
        Check.that("20: of a moderator", "not g0 right; ", Chats.pulled(x, 0));
        x.kick(0, 0, 4);
        Check.that("20: of one that is not in", "not g0 right; ", Chats.pulled(x, 0));
        x.kick(0, 0, 0);
        Check.that("20: of itself", "not g0 right; ", Chats.pulled(x, 0));
        Check.that("20: kick", 0, x.kick(0, 0, 2));
        Check.that("20: all are told", "out g0 1.0; ", Chats.pulled(x, 0));
        Check.that("20: that one too", "out g0 1.0; ", Chats.pulled(x, 2));
        Check.that("20: not in", -1, x.roleOf(0, 2));
        x.join(2, 0);
        x.leave(0, 0);
        x.kick(0, 0, 2);
        Check.that("20: a moderator must be in", 1, x.roleOf(0, 2));
        Check.that("20: to the other server", 1, x.kick(0, 1, 11));
        Check.that("20: text", "kick 0.0 5.1 to g1", x.onLink(0, 0));
    }

    private static void role() {
        Twinchat x = Chats.logged(0, 1, 2, 4);
        x.join(0, 0);
        x.join(1, 0);
        x.join(2, 0);
        Chats.pulled(x, 0);
        Chats.pulled(x, 2);
        Check.that("21: role", 0, x.role(0, 0, 2, 0));
        Check.that("21: a visitor", 0, x.roleOf(0, 2));
        Check.that("21: all are told", "in g0 1.0 0; ", Chats.pulled(x, 0));
        Check.that("21: that one too", "in g0 1.0 0; ", Chats.pulled(x, 2));
        x.role(0, 0, 2, 1);
        Check.that("21: a participant", 1, x.roleOf(0, 2));
        Chats.pulled(x, 0);
        Chats.pulled(x, 2);
        x.role(2, 0, 2, 0);
        Check.that("21: no moderator", "not g0 right; ", Chats.pulled(x, 2));
        x.role(0, 0, 1, 0);
        Check.that("21: of a moderator", "not g0 right; ", Chats.pulled(x, 0));
        x.role(0, 0, 4, 1);
        Check.that("21: of one that is not in", "not g0 right; ", Chats.pulled(x, 0));
        Check.that("21: to the other server", 1, x.role(0, 1, 11, 1));
        Check.that("21: text", "role 0.0 5.1 1 to g1", x.onLink(0, 0));
    }

    private static void member() {
        Twinchat x = Chats.logged(0, 2, 3, 4);
        x.join(3, 0);
        x.join(2, 0);
        x.join(4, 0);
        Chats.pulled(x, 2);
        Chats.pulled(x, 4);
        x.member(4, 0, 1, 3);
        Check.that("22: no owner", "not g0 right; ", Chats.pulled(x, 4));
        x.member(0, 0, 0, 1);
        Check.that("22: of itself", "not g0 right; ", Chats.pulled(x, 0));
        Check.that("22: an owner stays", 2, x.affiliation(0, 0));
        Check.that("22: an owner need not be in", 0, x.member(0, 0, 1, 1));
        Check.that("22: member", 1, x.affiliation(0, 1));
        Check.that("22: roles stay", 1, x.roleOf(0, 2));
        x.member(0, 0, 1, 3);
        Check.that("22: outcast", 3, x.affiliation(0, 1));
        Check.that("22: both are out, by number", "out g0 1.0; out g0 1.1; ", Chats.pulled(x, 4));
        Check.that("22: the first is told of itself", "out g0 1.0; ", Chats.pulled(x, 2));
        Check.that("22: one is in", 1, x.ofRoom(0, 0));
        Check.that("22: sound", true, x.isSound());
        x.member(0, 0, 1, 0);
        Check.that("22: none", 0, x.affiliation(0, 1));
        Check.that("22: to the other server", 1, x.member(0, 1, 5, 3));
        Check.that("22: text", "member 0.0 5 3 to g1", x.onLink(0, 0));
    }

    private static void moderate() {
        Twinchat x = Chats.logged(0, 2, 6);
        x.join(2, 0);
        Chats.pulled(x, 2);
        x.moderate(2, 0, true);
        Check.that("23: no owner", "not g0 right; ", Chats.pulled(x, 2));
        Check.that("23: not moderated", 0, x.ofRoom(0, 2));
        Check.that("23: moderate", 0, x.moderate(0, 0, true));
        Check.that("23: moderated", 1, x.ofRoom(0, 2));
        Check.that("23: roles stay", 1, x.roleOf(0, 2));
        Check.that("23: nobody is told", "", Chats.pulled(x, 2));
        x.moderate(0, 0, false);
        Check.that("23: not moderated", 0, x.ofRoom(0, 2));
        Check.that("23: to the other server", 1, x.moderate(0, 1, true));
        Check.that("23: text", "moderate 0.0 1 to g1", x.onLink(0, 0));
        Check.that("23: text", 2, x.moderate(0, 1, false));
        Check.that("23: text", "moderate 0.0 0 to g1", x.onLink(0, 1));
        x.moderate(6, 1, true);
        Check.that("23: its own owner", 1, x.ofRoom(1, 2));
        x.carryAll();
        Check.that("23: the owner of the other one", "not g1 right", x.due(0, x.ofStream(0, 1) - x.ofStream(0, 2) - 1));
    }

    private static void overLink() {
        Twinchat x = Chats.logged(0, 6);
        x.join(6, 1);
        x.join(0, 1);
        x.carry(0, 1);
        Check.that("17: text", "in g1 3.0 2 to 0.0", x.onLink(1, 0));
        Check.that("17: text", "in g1 0.0 1 to 0.0", x.onLink(1, 1));
        x.say(6, 1);
        Check.that("19: text", "said g1 1 3.0 to 0.0", x.onLink(1, 2));
        x.logout(0);
        x.carryAll();
        Check.that("18: text came", 1, x.ofRoom(1, 0));
        Check.that("17: what comes to one that is off", 0, x.ofStream(0, 1));
        x.login(0);
        x.kick(0, 1, 6);
        x.carry(0, 1);
        Check.that("20: text", "not g1 right to 0.0", x.onLink(1, 0));
    }
}
