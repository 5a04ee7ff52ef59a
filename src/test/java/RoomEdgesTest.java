/** The boundary cases of section 4 and of promises 17 to 23, a test for each sentence that names one. */
public final class RoomEdgesTest {
    private RoomEdgesTest() {
    }

    public static void main(String[] args) {
        ownersAtFirst();
        firstAndLastResource();
        joinFirst();
        joinFifthAndSixth();
        joinOfOneThatIsIn();
        joinOfAnOutcast();
        joinAgainAtTheEnd();
        firstRoles();
        ownerOfTheOtherRoom();
        historyOfNoneToFour();
        historyStays();
        emptiedStaysAsItWas();
        aheadAsTheyAreNow();
        leaveOfOneThatIsNotIn();
        leaveOfTheOnlyOne();
        leaveOfFirstMiddleLast();
        sayOfEachRole();
        sayOfOneThatIsNotIn();
        sayAlone();
        historyOfEachRoom();
        kickByEachRole();
        kickOfEachRole();
        kickWithNobody();
        roleLeastAndGreatest();
        roleOfTheFirstIn();
        roleOfItself();
        roleByEachRole();
        roleOfOneThatIsNotIn();
        memberOfEach();
        memberOfOneThatIsIn();
        memberOfTheOwner();
        memberByNoOwner();
        memberOfTheFirstUser();
        outcastNotIn();
        outcastOneIn();
        outcastBothIn();
        outcastOfTheOther();
        moderateOnAndOff();
        moderateByNoOwner();
        toldIfNotOff();
        notGoesToTheOneAlone();
        countOfTheLinkBehind();
        System.exit(Check.closed("RoomEdgesTest"));
    }

    /** 0.0 (MODERATOR), 1.0 (PARTICIPANT) and 2.0 (VISITOR) are in ROOM 0, 1.1 is not; nothing is due. */
    private static Twinchat room() {
        Twinchat x = Chats.logged(0, 2, 3, 4);
        x.join(0, 0);
        x.join(2, 0);
        x.moderate(0, 0, true);
        x.join(4, 0);
        Chats.pullAll(x);
        return x;
    }

    private static String inside(Twinchat x, int g) {
        StringBuilder all = new StringBuilder();
        for (int k = 0; x.occupant(g, k) != -1; k++) {
            all.append(x.occupant(g, k)).append('/').append(x.roleOf(g, x.occupant(g, k))).append(' ');
        }
        return all.toString();
    }

    /** "ROOM 0 .. OWNER USER 0; ROOM 1 .. OWNER USER 3"; "0 NONE (at first)", "OWNER (that one alone)". */
    private static void ownersAtFirst() {
        Twinchat x = new Twinchat();
        for (int u = 0; u < 6; u++) {
            Check.that("22: in room 0", u == 0 ? 2 : 0, x.affiliation(0, u));
            Check.that("22: in room 1", u == 3 ? 2 : 0, x.affiliation(1, u));
        }
    }

    private static void firstAndLastResource() {
        Twinchat x = Chats.logged(0, 11);
        for (int g = 0; g < 2; g++) {
            x.join(0, g);
            x.join(11, g);
        }
        x.carryAll();
        Check.that("17: in room 0", "0/2 11/1 ", inside(x, 0));
        Check.that("17: in room 1", "11/1 0/1 ", inside(x, 1));
    }

    /** "To r for each occupant ahead": there is none. */
    private static void joinFirst() {
        Twinchat x = Chats.logged(2);
        x.join(2, 0);
        Check.that("17: itself alone", "in g0 1.0 1; ", Chats.dues(x, 2));
        Check.that("17: it is in", "2/1 ", inside(x, 0));
    }

    /** "at most 5"; "five are in: "not g full" to r". */
    private static void joinFifthAndSixth() {
        for (int g = 0; g < 2; g++) {
            int first = 6 * g;
            Twinchat x = new Twinchat();
            for (int r = first; r < first + 6; r++) x.login(r);
            for (int r = first; r < first + 4; r++) x.join(r, g);
            Check.that("17: four", 4, x.ofRoom(g, 0));
            x.join(first + 4, g);
            Check.that("17: the fifth", 5, x.ofRoom(g, 0));
            Check.that("17: the last", first + 4, x.occupant(g, 4));
            Chats.pullAll(x);
            x.join(first + 5, g);
            Check.that("17: the sixth", "not g" + g + " full; ", Chats.dues(x, first + 5));
            Check.that("17: five are in", 5, x.ofRoom(g, 0));
            Check.that("17: it is not", -1, x.roleOf(g, first + 5));
            Check.that("17: nobody is told", "", Chats.dues(x, first));
            x.leave(first, g);
            x.join(first + 5, g);
            Check.that("17: one left", first + 5, x.occupant(g, 4));
        }
    }

    /** "r is in: "not g in"": ahead of "five are in"; nothing else changes. */
    private static void joinOfOneThatIsIn() {
        Twinchat x = Chats.logged(0, 1, 2, 3, 4);
        x.join(0, 0);
        x.join(1, 0);
        x.join(2, 0);
        x.say(0, 0);
        Chats.pullAll(x);
        String before = inside(x, 0);
        x.join(2, 0);
        Check.that("17: with three", "not g0 in; ", Chats.pulled(x, 2));
        Check.that("17: nobody is told", "", Chats.dues(x, 0));
        Check.that("17: the place stays", before, inside(x, 0));
        x.join(3, 0);
        x.join(4, 0);
        Chats.pullAll(x);
        x.join(0, 0);
        Check.that("17: with five", "not g0 in; ", Chats.dues(x, 0));
    }

    /** "the USER of r is OUTCAST: "not g forbidden" to r": both its RESOURCES; ahead of "five are in". */
    private static void joinOfAnOutcast() {
        Twinchat x = Chats.logged(0, 1, 2, 3, 4, 5, 6);
        x.member(0, 0, 1, 3);
        x.join(2, 0);
        x.join(3, 0);
        Check.that("17: the one", "not g0 forbidden; ", Chats.pulled(x, 2));
        Check.that("17: the other", "not g0 forbidden; ", Chats.pulled(x, 3));
        Check.that("17: nobody is in", 0, x.ofRoom(0, 0));
        x.join(2, 1);
        x.carryAll();
        Check.that("17: of that room alone", 1, x.ofRoom(1, 0));
        for (int r : new int[] {0, 1, 4, 5, 6}) x.join(r, 0);
        x.carryAll();
        Check.that("17: five are in", 5, x.ofRoom(0, 0));
        Chats.pullAll(x);
        x.join(3, 0);
        Check.that("17: not full, but forbidden", "not g0 forbidden; ", Chats.dues(x, 3));
    }

    /** "in the sequence in which they came": who comes again is the last. */
    private static void joinAgainAtTheEnd() {
        Twinchat x = Chats.logged(0, 2, 4);
        x.join(4, 0);
        x.join(0, 0);
        x.join(2, 0);
        Check.that("17: as they came", "4/1 0/2 2/1 ", inside(x, 0));
        x.leave(4, 0);
        x.join(4, 0);
        Check.that("17: the last", "0/2 2/1 4/1 ", inside(x, 0));
    }

    /** "MODERATOR of an OWNER, VISITOR if the ROOM is MODERATED and the USER no MEMBER, otherwise PARTICIPANT". */
    private static void firstRoles() {
        int[][] due = {{2, 1, 1}, {2, 1, 0}};
        for (int moderated = 0; moderated <= 1; moderated++) {
            Twinchat x = Chats.logged(0, 1, 2, 4);
            x.moderate(0, 0, moderated == 1);
            x.member(0, 0, 1, 1);
            for (int r : new int[] {0, 1, 2, 4}) x.join(r, 0);
            Check.that("17: an owner", due[moderated][0], x.roleOf(0, 0));
            Check.that("17: its other resource", due[moderated][0], x.roleOf(0, 1));
            Check.that("17: a member", due[moderated][1], x.roleOf(0, 2));
            Check.that("17: no member", due[moderated][2], x.roleOf(0, 4));
        }
    }

    private static void ownerOfTheOtherRoom() {
        Twinchat x = Chats.logged(0, 6);
        x.moderate(6, 1, true);
        x.join(0, 1);
        x.join(6, 1);
        x.join(6, 0);
        x.carryAll();
        Check.that("17: is none here", 0, x.roleOf(1, 0));
        Check.that("17: nor there", 1, x.roleOf(0, 6));
        Check.that("17: here it is", 2, x.roleOf(1, 6));
    }

    /** "to r the last 3 of HISTORY": none, one, two, three, and not the first of four. */
    private static void historyOfNoneToFour() {
        String[] due = {"", "said g0 1 0.0; ", "said g0 1 0.0; said g0 2 0.0; ",
            "said g0 1 0.0; said g0 2 0.0; said g0 3 0.0; ", "said g0 2 0.0; said g0 3 0.0; said g0 4 0.0; "};
        for (int many = 0; many <= 4; many++) {
            Twinchat x = Chats.logged(0, 2);
            x.join(0, 0);
            for (int k = 0; k < many; k++) x.say(0, 0);
            Chats.pullAll(x);
            x.join(2, 0);
            Check.that("17: of " + many, "in g0 0.0 2; in g0 1.0 1; " + due[many], Chats.dues(x, 2));
            Check.that("17: to that one alone", "in g0 1.0 1; ", Chats.dues(x, 0));
        }
    }

    /** HISTORY is of the ROOM: nobody needs to be in. */
    private static void historyStays() {
        Twinchat x = Chats.logged(0, 2);
        x.join(0, 0);
        x.say(0, 0);
        x.leave(0, 0);
        Check.that("19: nobody is in", 0, x.ofRoom(0, 0));
        Check.that("19: it stays", 1, x.ofRoom(0, 1));
        Check.that("19: who said it", 0, x.said(0, 1));
        x.join(2, 0);
        Check.that("17: told", "in g0 1.0 1; said g0 1 0.0; ", Chats.dues(x, 2));
        x.say(2, 0);
        Check.that("19: the next number", 2, x.said(0, 2));
    }

    /** What is of the ROOM and not of those who are in stays, though all left. */
    private static void emptiedStaysAsItWas() {
        Twinchat x = Chats.logged(0, 2, 4);
        x.member(0, 0, 1, 1);
        x.member(0, 0, 2, 3);
        x.moderate(0, 0, true);
        x.join(0, 0);
        x.leave(0, 0);
        Check.that("18: nobody is in", "", inside(x, 0));
        Check.that("18: MODERATED still", 1, x.ofRoom(0, 2));
        Check.that("18: MEMBER still", 1, x.affiliation(0, 1));
        Check.that("18: OUTCAST still", 3, x.affiliation(0, 2));
        Check.that("18: OWNER still", 2, x.affiliation(0, 0));
        x.join(2, 0);
        x.join(4, 0);
        Check.that("17: as they are", "2/1 ", inside(x, 0));
    }

    /** "To r for each occupant ahead "in g s ROLE"": the ROLE that it has now, not the one it came with. */
    private static void aheadAsTheyAreNow() {
        Twinchat x = Chats.logged(0, 2, 3, 4, 5);
        x.join(0, 0);
        x.join(2, 0);
        x.moderate(0, 0, true);
        x.join(4, 0);
        x.role(0, 0, 2, 0);
        x.role(0, 0, 4, 1);
        x.join(5, 0);
        Check.that("17: told", "in g0 0.0 2; in g0 1.0 0; in g0 2.0 1; in g0 2.1 0; ", Chats.dues(x, 5));
        x.moderate(0, 0, false);
        x.join(3, 0);
        Check.that("17: nor by MODERATED", "in g0 0.0 2; in g0 1.0 0; in g0 2.0 1; in g0 2.1 0; in g0 1.1 1; ", Chats.dues(x, 3));
    }

    /** "if it is in": otherwise nothing, not even "not". */
    private static void leaveOfOneThatIsNotIn() {
        Twinchat x = room();
        String before = Whole.of(x);
        Check.that("18: not in", 0, x.leave(3, 0));
        Check.that("18: nothing changed", before, Whole.of(x));
        Check.that("18: not refused", 0, x.house(8));
    }

    private static void leaveOfTheOnlyOne() {
        Twinchat x = Chats.logged(2);
        x.join(2, 0);
        x.leave(2, 0);
        Check.that("18: it is told, too", "in g0 1.0 1; out g0 1.0; ", Chats.dues(x, 2));
        Check.that("18: nobody is in", 0, x.ofRoom(0, 0));
        Check.that("18: none", -1, x.occupant(0, 0));
        x.leave(2, 0);
        Check.that("18: again", "in g0 1.0 1; out g0 1.0; ", Chats.dues(x, 2));
    }

    /** Whoever leaves a ROOM of five: the others stay in their sequence, with their ROLES. */
    private static void leaveOfFirstMiddleLast() {
        String[] due = {"2/1 4/0 1/2 5/0 ", "0/2 4/0 1/2 5/0 ", "0/2 2/1 1/2 5/0 ", "0/2 2/1 4/0 5/0 ", "0/2 2/1 4/0 1/2 "};
        int[] in = {0, 2, 4, 1, 5};
        for (int k = 0; k < 5; k++) {
            Twinchat x = Chats.logged(0, 1, 2, 4, 5);
            x.join(0, 0);
            x.join(2, 0);
            x.moderate(0, 0, true);
            x.join(4, 0);
            x.join(1, 0);
            x.join(5, 0);
            Chats.pullAll(x);
            x.leave(in[k], 0);
            Check.that("18: without number " + k, due[k], inside(x, 0));
            Check.that("18: four", 4, x.ofRoom(0, 0));
            Check.that("18: none behind them", -1, x.occupant(0, 4));
            Check.that("18: not in", -1, x.roleOf(0, in[k]));
            for (int r : in) Check.that("18: all are told", "out g0 " + in[k] / 2 + "." + in[k] % 2 + "; ", Chats.dues(x, r));
        }
    }

    /** "a VISITOR: "not g voice"; otherwise HISTORY has it". */
    private static void sayOfEachRole() {
        Twinchat x = room();
        x.say(4, 0);
        Check.that("19: a visitor", "not g0 voice; ", Chats.pulled(x, 4));
        Check.that("19: no history", 0, x.ofRoom(0, 1));
        Check.that("19: nobody is told", "", Chats.dues(x, 0) + Chats.dues(x, 2));
        x.say(2, 0);
        Check.that("19: a participant", 2, x.said(0, 1));
        x.say(0, 0);
        Check.that("19: a moderator", 0, x.said(0, 2));
        for (int r : new int[] {0, 2, 4}) {
            Check.that("19: all are told", "said g0 1 1.0; said g0 2 0.0; ", Chats.dues(x, r));
        }
        Check.that("19: not one that is not in", "", Chats.dues(x, 3));
    }

    private static void sayOfOneThatIsNotIn() {
        Twinchat x = room();
        x.say(3, 0);
        Check.that("19: its other one is in", "not g0 in; ", Chats.pulled(x, 3));
        x.leave(0, 0);
        Chats.pullAll(x);
        x.say(0, 0);
        Check.that("19: an owner that is not in", "not g0 in; ", Chats.dues(x, 0));
        Check.that("19: no history", 0, x.ofRoom(0, 1));
    }

    /** "all are told": itself alone. */
    private static void sayAlone() {
        Twinchat x = Chats.logged(2);
        x.join(2, 0);
        x.say(2, 0);
        Check.that("19: itself", "in g0 1.0 1; said g0 1 1.0; ", Chats.dues(x, 2));
    }

    /** "numbered from 1", in each ROOM. */
    private static void historyOfEachRoom() {
        Twinchat x = Chats.logged(0, 6);
        x.join(0, 0);
        x.join(6, 1);
        x.say(0, 0);
        x.say(6, 1);
        x.say(6, 1);
        Check.that("19: one", 1, x.ofRoom(0, 1));
        Check.that("19: two", 2, x.ofRoom(1, 1));
        Check.that("19: texts", "in g1 3.0 2; said g1 1 3.0; said g1 2 3.0; ", Chats.dues(x, 6));
    }

    /** "if r is MODERATOR": neither PARTICIPANT, VISITOR, one that is not in, nor an OWNER that is not. */
    private static void kickByEachRole() {
        Twinchat x = room();
        for (int r : new int[] {2, 4, 3}) {
            for (int s : new int[] {4, 2, 0}) {
                x.kick(r, 0, s);
                Check.that("20: no moderator", "not g0 right; ", Chats.pulled(x, r));
            }
        }
        Check.that("20: all are in", 3, x.ofRoom(0, 0));
        x.leave(0, 0);
        Chats.pullAll(x);
        x.kick(0, 0, 4);
        Check.that("20: an owner that is not in", "not g0 right; ", Chats.dues(x, 0));
        Check.that("20: two are in", 2, x.ofRoom(0, 0));
    }

    /** "and s is in with a smaller ROLE": PARTICIPANT and VISITOR; not MODERATOR, itself, one that is not in. */
    private static void kickOfEachRole() {
        Twinchat x = room();
        x.login(1);
        x.join(1, 0);
        Chats.pullAll(x);
        for (int s : new int[] {0, 1, 3}) {
            x.kick(0, 0, s);
            Check.that("20: not " + s, "not g0 right; ", Chats.pulled(x, 0));
        }
        Check.that("20: nobody is told", "", Chats.dues(x, 1) + Chats.dues(x, 2));
        Check.that("20: four are in", 4, x.ofRoom(0, 0));
        x.kick(1, 0, 4);
        Check.that("20: a visitor", "out g0 2.0; ", Chats.pulled(x, 4));
        x.kick(0, 0, 2);
        Check.that("20: a participant, told of both", "out g0 2.0; out g0 1.0; ", Chats.pulled(x, 2));
        Check.that("20: all are told", "out g0 2.0; out g0 1.0; ", Chats.pulled(x, 0));
        Check.that("20: the moderators are in", "0/2 1/2 ", inside(x, 0));
        x.kick(0, 0, 2);
        Check.that("20: no longer in", "not g0 right; ", Chats.dues(x, 0));
        x.join(2, 0);
        Check.that("20: it may come again", 0, x.roleOf(0, 2));
    }

    private static void kickWithNobody() {
        Twinchat x = Chats.logged(0);
        x.kick(0, 0, 0);
        Check.that("20: an empty room", "not g0 right; ", Chats.dues(x, 0));
    }

    /** "(R 0 or 1)". */
    private static void roleLeastAndGreatest() {
        Twinchat x = room();
        x.role(0, 0, 2, 0);
        Check.that("21: a visitor", 0, x.roleOf(0, 2));
        x.role(0, 0, 2, 0);
        Check.that("21: the same again", 0, x.roleOf(0, 2));
        x.role(0, 0, 2, 1);
        Check.that("21: a participant", 1, x.roleOf(0, 2));
        for (int r : new int[] {0, 2, 4}) {
            Check.that("21: all are told each time", "in g0 1.0 0; in g0 1.0 0; in g0 1.0 1; ", Chats.dues(x, r));
        }
    }

    /** s may be the first that came, and the last. */
    private static void roleOfTheFirstIn() {
        Twinchat x = Chats.logged(0, 2, 4);
        x.join(2, 0);
        x.join(0, 0);
        x.join(4, 0);
        Chats.pullAll(x);
        x.role(0, 0, 2, 0);
        x.role(0, 0, 4, 0);
        Check.that("21: the first and the last", "2/0 0/2 4/0 ", inside(x, 0));
        Check.that("21: told", "in g0 1.0 0; in g0 2.0 0; ", Chats.dues(x, 0));
    }

    /** "s is in and no MODERATOR". */
    private static void roleOfItself() {
        Twinchat x = room();
        x.login(1);
        x.join(1, 0);
        Chats.pullAll(x);
        x.role(0, 0, 0, 1);
        x.role(0, 0, 1, 0);
        Check.that("21: moderators", "not g0 right; not g0 right; ", Chats.dues(x, 0));
        Check.that("21: they stay", "0/2 2/1 4/0 1/2 ", inside(x, 0));
    }

    private static void roleByEachRole() {
        Twinchat x = room();
        for (int r : new int[] {2, 4, 3}) {
            for (int s : new int[] {4, 2, 0}) {
                x.role(r, 0, s, 1);
                Check.that("21: no moderator", "not g0 right; ", Chats.pulled(x, r));
            }
        }
        x.leave(0, 0);
        Chats.pullAll(x);
        x.role(0, 0, 4, 1);
        Check.that("21: an owner that is not in", "not g0 right; ", Chats.dues(x, 0));
        Check.that("21: roles stay", "2/1 4/0 ", inside(x, 0));
    }

    private static void roleOfOneThatIsNotIn() {
        Twinchat x = room();
        x.role(0, 0, 3, 0);
        x.role(0, 0, 11, 1);
        Check.that("21: not in", "not g0 right; not g0 right; ", Chats.dues(x, 0));
        Check.that("21: nor then", -1, x.roleOf(0, 3));
    }

    /** "(A 0, 1 or 3)": each of them, from each of them; nobody is told. */
    private static void memberOfEach() {
        for (int from : new int[] {0, 1, 3}) {
            for (int to : new int[] {0, 1, 3}) {
                Twinchat x = Chats.logged(0, 4);
                x.join(0, 0);
                Chats.pullAll(x);
                x.member(0, 0, 5, from);
                x.member(0, 0, 5, to);
                Check.that("22: affiliation", to, x.affiliation(0, 5));
                Check.that("22: not in the other room", 0, x.affiliation(1, 5));
                Check.that("22: nobody is told", "", Chats.dues(x, 0));
            }
        }
    }

    /** "if OUTCAST": MEMBER or NONE nobody goes, and the ROLE stays. */
    private static void memberOfOneThatIsIn() {
        Twinchat x = room();
        for (int rank = 0; rank <= 1; rank++) {
            x.member(0, 0, 1, rank);
            x.member(0, 0, 2, rank);
            Check.that("22: all stay", "0/2 2/1 4/0 ", inside(x, 0));
        }
        Check.that("22: nobody is told", "", Chats.dues(x, 0) + Chats.dues(x, 2) + Chats.dues(x, 4));
    }

    /** "and v another one": otherwise "not g right". */
    private static void memberOfTheOwner() {
        for (int rank : new int[] {0, 1, 3}) {
            Twinchat x = Chats.logged(0, 1, 6);
            x.join(1, 0);
            Chats.pullAll(x);
            x.member(0, 0, 0, rank);
            Check.that("22: itself", "not g0 right; ", Chats.dues(x, 0));
            Check.that("22: an owner still", 2, x.affiliation(0, 0));
            Check.that("22: in still", 2, x.roleOf(0, 1));
            x.member(6, 1, 3, rank);
            Check.that("22: the other owner", "not g1 right; ", Chats.dues(x, 6));
            Check.that("22: an owner still", 2, x.affiliation(1, 3));
        }
    }

    /** "if the USER of r is OWNER": its RESOURCES, in or not; no MODERATOR, no MEMBER, no OWNER of the other ROOM. */
    private static void memberByNoOwner() {
        Twinchat x = Chats.logged(0, 1, 2, 6);
        x.member(0, 0, 1, 1);
        x.join(2, 0);
        Chats.pullAll(x);
        x.member(2, 0, 2, 1);
        Check.that("22: a member", "not g0 right; ", Chats.dues(x, 2));
        x.member(2, 0, 1, 0);
        Check.that("22: of itself", 1, x.affiliation(0, 1));
        x.member(6, 0, 2, 1);
        x.carryAll();
        Check.that("22: the owner of the other room", "not g0 right; ", Chats.dues(x, 6));
        Check.that("22: none", 0, x.affiliation(0, 2));
        x.member(2, 0, 0, 3);
        Check.that("22: of the owner", 2, x.affiliation(0, 0));
        x.member(1, 0, 2, 1);
        Check.that("22: the other resource of the owner", 1, x.affiliation(0, 2));
    }

    /** USER 0 is the first, and in ROOM 1 no OWNER. */
    private static void memberOfTheFirstUser() {
        Twinchat x = Chats.logged(6);
        x.member(6, 1, 0, 1);
        Check.that("22: the first", 1, x.affiliation(1, 0));
        x.member(6, 1, 5, 3);
        Check.that("22: the last", 3, x.affiliation(1, 5));
        Check.that("22: room 0 is as it was", 2, x.affiliation(0, 0));
        Check.that("22: nobody is told", "", Chats.dues(x, 6));
    }

    private static void outcastNotIn() {
        Twinchat x = room();
        x.member(0, 0, 5, 3);
        Check.that("22: nobody is told", "", Chats.dues(x, 0) + Chats.dues(x, 2));
        Check.that("22: three are in", 3, x.ofRoom(0, 0));
    }

    private static void outcastOneIn() {
        Twinchat x = room();
        x.member(0, 0, 1, 3);
        Check.that("22: it is told", "out g0 1.0; ", Chats.dues(x, 2));
        Check.that("22: all are told", "out g0 1.0; ", Chats.dues(x, 0));
        Check.that("22: its other one was not in", "", Chats.dues(x, 3));
        Check.that("22: two are in", "0/2 4/0 ", inside(x, 0));
        x.member(0, 0, 1, 3);
        Check.that("22: again: nobody is left to go", "out g0 1.0; ", Chats.dues(x, 0));
    }

    /** "each RESOURCE of v that is in, by number": whichever came first; the second is told of the first. */
    private static void outcastBothIn() {
        Twinchat x = Chats.logged(0, 2, 3);
        x.join(3, 0);
        x.join(0, 0);
        x.join(2, 0);
        Chats.pullAll(x);
        x.member(0, 0, 1, 3);
        Check.that("22: both", "out g0 1.0; out g0 1.1; ", Chats.dues(x, 0));
        Check.that("22: the first is out by then", "out g0 1.0; ", Chats.dues(x, 2));
        Check.that("22: the second is in yet", "out g0 1.0; out g0 1.1; ", Chats.dues(x, 3));
        Check.that("22: one is left", "0/2 ", inside(x, 0));
    }

    /** Made MEMBER or NONE again nobody comes in by that; OUTCAST of one ROOM is in the other. */
    private static void outcastOfTheOther() {
        Twinchat x = Chats.logged(0, 2, 6);
        x.join(2, 0);
        x.join(2, 1);
        x.carryAll();
        x.member(0, 0, 1, 3);
        Check.that("22: out of the one", 0, x.ofRoom(0, 0));
        Check.that("22: in the other", 1, x.roleOf(1, 2));
        x.member(0, 0, 1, 1);
        Check.that("22: not in by that", 0, x.ofRoom(0, 0));
        x.join(2, 0);
        Check.that("22: it may come", 1, x.roleOf(0, 2));
        Check.that("22: sound", true, x.isSound());
    }

    /** "(X 1 or 0)": also as it is already; who is in keeps the ROLE; nobody is told. */
    private static void moderateOnAndOff() {
        Twinchat x = Chats.logged(0, 2, 4);
        x.join(2, 0);
        Chats.pullAll(x);
        boolean[] on = {false, true, true, false};
        for (boolean isOn : on) {
            x.moderate(0, 0, isOn);
            Check.that("23: moderated", isOn ? 1 : 0, x.ofRoom(0, 2));
            Check.that("23: the other room is not", 0, x.ofRoom(1, 2));
            Check.that("23: the role stays", "2/1 ", inside(x, 0));
        }
        Check.that("23: nobody is told", "", Chats.dues(x, 0) + Chats.dues(x, 2));
    }

    private static void moderateByNoOwner() {
        Twinchat x = Chats.logged(0, 1, 2, 6);
        x.member(0, 0, 1, 1);
        x.moderate(2, 0, true);
        Check.that("23: a member", "not g0 right; ", Chats.pulled(x, 2));
        x.moderate(6, 0, true);
        x.carryAll();
        Check.that("23: the owner of the other room", "not g0 right; ", Chats.dues(x, 6));
        Check.that("23: not moderated", 0, x.ofRoom(0, 2));
        x.moderate(1, 0, true);
        Check.that("23: the other resource of the owner", 1, x.ofRoom(0, 2));
        x.moderate(2, 0, false);
        Check.that("23: nor off", "not g0 right; ", Chats.dues(x, 2));
        Check.that("23: moderated", 1, x.ofRoom(0, 2));
    }

    /** "What comes from a ROOM to a RESOURCE is PUT, if its stream is not OFF". */
    private static void toldIfNotOff() {
        Twinchat x = Chats.logged(0, 6, 8, 10);
        x.join(0, 0);
        for (int r = 6; r < 12; r += 2) x.join(r, 0);
        x.carryAll();
        Chats.pullAll(x);
        x.say(0, 0);
        x.breaks(6);
        x.logout(8);
        x.carry(0, 9);
        Check.that("17: broken is not off", "said g0 1 0.0; ", Chats.dues(x, 6));
        Check.that("17: off", 0, x.ofStream(8, 1));
        Check.that("17: on, not available", "said g0 1 0.0; ", Chats.dues(x, 10));
        x.carryAll();
        x.login(8);
        Check.that("17: it is out by then", "0/2 6/1 10/1 ", inside(x, 0));
    }

    private static void notGoesToTheOneAlone() {
        Twinchat x = room();
        x.login(5);
        x.join(5, 0);
        Chats.pullAll(x);
        x.kick(4, 0, 0);
        Check.that("20: to that one", "not g0 right; ", Chats.dues(x, 4));
        Check.that("20: not to its other one", "", Chats.dues(x, 5));
        Check.that("20: to nobody else", "", Chats.dues(x, 0) + Chats.dues(x, 2));
    }

    /** "Returns how many STANZAS are on the LINK from its SERVER then": 0, what was there, what the ROOM tells. */
    private static void countOfTheLinkBehind() {
        Twinchat x = Chats.logged(0, 6);
        Check.that("17: none", 0, x.join(0, 0));
        Check.that("17: its own", 1, x.join(0, 1));
        Check.that("19: and one more", 2, x.say(0, 1));
        Check.that("18: nothing to the link", 2, x.leave(0, 0));
        Check.that("17: from the other one", 1, x.join(6, 0));
        x.carryAll();
        Check.that("17: from 0 what the room tells 3.0", 1, x.join(0, 0));
        Check.that("19: and again", 2, x.say(0, 0));
        Check.that("21: again", 3, x.role(0, 0, 6, 0));
        Check.that("22: the two are told, one over the link", 4, x.member(0, 0, 3, 3));
        Check.that("23: to nobody", 4, x.moderate(0, 0, true));
        Check.that("20: not right, at home", 4, x.kick(0, 0, 6));
        Check.that("20: from 1 to the room", 1, x.kick(6, 0, 0));
    }
}
