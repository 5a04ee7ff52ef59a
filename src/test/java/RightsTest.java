/**
 * Each act in a ROOM by each kind of RESOURCE (OWNER, MEMBER, nobody, OUTCAST; in with each ROLE or
 * not in), towards each kind, at both ROOMS: what is told to whom, and how the ROOM is then.
 */
public final class RightsTest {
    private static final int NOT_IN = -1;
    /** By kind: the OWNER's two, one of nobody's two, a MEMBER's two, one of nobody's two, an OUTCAST's one. */
    private static final int[] USERS = {0, 0, 1, 1, 3, 3, 4, 4, 5};
    private static final int[] WHICH = {0, 1, 0, 1, 0, 1, 0, 1, 0};
    private static final int[] ROLES = {2, NOT_IN, 1, NOT_IN, 1, 0, 0, NOT_IN, NOT_IN};
    private static final int OUTCAST = 8;
    private static final int KINDS = 9;
    /** The occupants as they came, by kind. */
    private static final int[] CAME = {0, 2, 4, 5, 6};

    private final int room;
    private Twinchat x;

    private RightsTest(int room) {
        this.room = room;
    }

    public static void main(String[] args) {
        for (int room = 0; room < 2; room++) {
            RightsTest test = new RightsTest(room);
            for (int kind = 0; kind < KINDS; kind++) {
                test.join(kind);
                test.leave(kind);
                test.say(kind);
                test.moderate(kind);
                for (int other = 0; other < KINDS; other++) {
                    test.kick(kind, other);
                    test.role(kind, other, 0);
                    test.role(kind, other, 1);
                    test.member(kind, USERS[other], 0);
                    test.member(kind, USERS[other], 1);
                    test.member(kind, USERS[other], 3);
                }
            }
        }
        System.exit(Check.closed("RightsTest"));
    }

    /** USER 0 is the OWNER of ROOM 0, USER 3 that of ROOM 1: the others likewise beside them. */
    private int user(int plain) {
        return (plain + 3 * room) % 6;
    }

    private int resource(int kind) {
        return 2 * user(USERS[kind]) + WHICH[kind];
    }

    private String name(int kind) {
        return States.name(resource(kind));
    }

    private void prepare() {
        x = new Twinchat();
        for (int kind = 0; kind < KINDS; kind++) x.login(resource(kind));
        x.member(resource(1), room, user(3), 1);
        x.member(resource(1), room, user(5), 3);
        x.join(resource(0), room);
        x.join(resource(2), room);
        x.moderate(resource(1), room, true);
        for (int k = 2; k < CAME.length; k++) {
            x.join(resource(CAME[k]), room);
            x.carryAll();
        }
        x.role(resource(0), room, resource(5), 0);
        x.carryAll();
        Chats.pullAll(x);
        Check.that("how it is ahead", rolesDue(NOT_IN, NOT_IN), roles());
    }

    private String roles() {
        StringBuilder all = new StringBuilder();
        for (int k = 0; x.occupant(room, k) != -1; k++) {
            all.append(States.name(x.occupant(room, k))).append('=').append(x.roleOf(room, x.occupant(room, k))).append(' ');
        }
        return all.toString();
    }

    /** As ahead, but for one: it has another ROLE, or (by NOT_IN) is not in. */
    private String rolesDue(int kind, int role) {
        StringBuilder all = new StringBuilder();
        for (int each : CAME) {
            int now = each == kind ? role : ROLES[each];
            if (now != NOT_IN) all.append(name(each)).append('=').append(now).append(' ');
        }
        return all.toString();
    }

    private boolean isOwner(int kind) {
        return USERS[kind] == 0;
    }

    private boolean isIn(int kind) {
        return ROLES[kind] != NOT_IN;
    }

    /** All who are in were told the one, and if that is none the actor alone the other. */
    private void told(String call, String toAll, int actor, String toActor) {
        x.carryAll();
        for (int kind = 0; kind < KINDS; kind++) {
            String due = isIn(kind) ? toAll : "";
            if (kind == actor) due += toActor;
            Check.that(call + ": told to " + name(kind), due, Chats.dues(x, resource(kind)));
        }
    }

    private String not(String why) {
        return "not g" + room + " " + why + "; ";
    }

    private void join(int kind) {
        prepare();
        String call = "join of " + name(kind) + " in " + room;
        x.join(resource(kind), room);
        told(call, "", kind, not(kind == OUTCAST ? "forbidden" : isIn(kind) ? "in" : "full"));
        Check.that(call, rolesDue(NOT_IN, NOT_IN), roles());
    }

    private void leave(int kind) {
        prepare();
        String call = "leave of " + name(kind) + " in " + room;
        x.leave(resource(kind), room);
        told(call, isIn(kind) ? "out g" + room + " " + name(kind) + "; " : "", kind, "");
        Check.that(call, rolesDue(kind, NOT_IN), roles());
    }

    private void say(int kind) {
        prepare();
        String call = "say of " + name(kind) + " in " + room;
        x.say(resource(kind), room);
        boolean isSaid = ROLES[kind] > 0;
        told(call, isSaid ? "said g" + room + " 1 " + name(kind) + "; " : "", kind, isSaid ? "" : not(isIn(kind) ? "voice" : "in"));
        Check.that(call + ": HISTORY", isSaid ? 1 : 0, x.ofRoom(room, 1));
        Check.that(call + ": who", isSaid ? resource(kind) : -1, x.said(room, 1));
    }

    private void moderate(int kind) {
        prepare();
        String call = "moderate of " + name(kind) + " in " + room;
        x.moderate(resource(kind), room, false);
        told(call, "", kind, isOwner(kind) ? "" : not("right"));
        Check.that(call, isOwner(kind) ? 0 : 1, x.ofRoom(room, 2));
        Check.that(call + ": the ROLES stay", rolesDue(NOT_IN, NOT_IN), roles());
    }

    private void kick(int kind, int other) {
        prepare();
        String call = "kick of " + name(other) + " by " + name(kind) + " in " + room;
        x.kick(resource(kind), room, resource(other));
        boolean isRight = kind == 0 && isIn(other) && ROLES[other] < 2;
        told(call, isRight ? "out g" + room + " " + name(other) + "; " : "", kind, isRight ? "" : not("right"));
        Check.that(call, rolesDue(isRight ? other : NOT_IN, NOT_IN), roles());
    }

    private void role(int kind, int other, int role) {
        prepare();
        String call = "role " + role + " of " + name(other) + " by " + name(kind) + " in " + room;
        x.role(resource(kind), room, resource(other), role);
        boolean isRight = kind == 0 && isIn(other) && ROLES[other] < 2;
        told(call, isRight ? "in g" + room + " " + name(other) + " " + role + "; " : "", kind, isRight ? "" : not("right"));
        Check.that(call, rolesDue(isRight ? other : NOT_IN, role), roles());
    }

    private void member(int kind, int plain, int affiliation) {
        prepare();
        String call = "member " + affiliation + " of " + user(plain) + " by " + name(kind) + " in " + room;
        int before = x.affiliation(room, user(plain));
        x.member(resource(kind), room, user(plain), affiliation);
        boolean isRight = isOwner(kind) && plain != 0;
        if (isRight && affiliation == 3) {
            x.carryAll();
            outcast(call, plain);
        } else {
            told(call, "", kind, isRight ? "" : not("right"));
            Check.that(call + ": the ROLES stay", rolesDue(NOT_IN, NOT_IN), roles());
        }
        Check.that(call, isRight ? affiliation : before, x.affiliation(room, user(plain)));
    }

    /** "each RESOURCE of v that is in, by number: all are told "out g s", then it is not in". */
    private void outcast(String call, int plain) {
        StringBuilder left = new StringBuilder();
        StringBuilder toAll = new StringBuilder();
        StringBuilder[] due = new StringBuilder[KINDS];
        for (int kind = 0; kind < KINDS; kind++) {
            due[kind] = new StringBuilder();
            if (isIn(kind) && USERS[kind] != plain) left.append(name(kind)).append('=').append(ROLES[kind]).append(' ');
            if (isIn(kind) && USERS[kind] == plain) toAll.append("out g").append(room).append(' ').append(name(kind)).append("; ");
            if (isIn(kind) && USERS[kind] == plain) due[kind].append(toAll);
        }
        for (int kind = 0; kind < KINDS; kind++) {
            if (isIn(kind) && USERS[kind] != plain) due[kind].append(toAll);
            Check.that(call + ": told to " + name(kind), due[kind], Chats.dues(x, resource(kind)));
        }
        Check.that(call + ": who is in", left, roles());
    }
}
