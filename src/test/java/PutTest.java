/**
 * Each kind of STANZA that comes over the LINK to a USER or to its first RESOURCE, in each state of
 * both of its RESOURCES, with a BLOCK and without, at both SERVERS: who has it PUT, and what goes back.
 */
public final class PutTest {
    private static final String[] KINDS = {
        "ask", "yes", "no", "end", "presence", "probed", "message", "direct", "bounce", "in", "out", "said", "not"
    };

    private final int home;
    private final int self;
    private final int first;
    private final int friend;
    private final int there;
    private final int far;
    private final String kind;
    private final boolean isBlocked;
    private final int[] states;
    private Twinchat x;

    private PutTest(int home, String kind, boolean isBlocked, int firstState, int secondState) {
        this.home = home;
        this.self = 3 * home;
        this.first = 2 * self;
        this.far = 1 - home;
        this.there = 3 * far;
        this.friend = 2 * there;
        this.kind = kind;
        this.isBlocked = isBlocked;
        this.states = new int[] {firstState, secondState};
    }

    public static void main(String[] args) {
        for (int home = 0; home < 2; home++) {
            for (String kind : KINDS) {
                for (int one : States.ALL) {
                    for (int other : States.ALL) {
                        new PutTest(home, kind, false, one, other).come();
                        new PutTest(home, kind, true, one, other).come();
                    }
                }
            }
        }
        System.exit(Check.closed("PutTest"));
    }

    private void come() {
        x = Chats.logged(first, first + 1, friend);
        make();
        if (isBlocked) x.block(first, there, true);
        States.turn(x, first, states[0]);
        States.turn(x, first + 1, states[1]);
        String whole = x.onLink(far, 0);
        String stanza = whole.substring(0, Math.max(0, whole.lastIndexOf(" to ")));
        String call = kind + " at " + home + (isBlocked ? " blocked" : "") + " to " + States.nameOf(states[0])
                + ", " + States.nameOf(states[1]);
        Check.that(call + ": the STANZA", stanzaDue(), whole);
        int firstCount = x.ofStream(first, 1);
        int secondCount = x.ofStream(first + 1, 1);
        String before = Chats.linked(x, home);
        Check.that(call + ": carried", 1, x.carry(far, 1));
        Check.that(call + ": PUT to the first", isPut(0) ? stanza : "", newIn(first, firstCount));
        Check.that(call + ": PUT to the second", isPut(1) ? stanza : "", newIn(first + 1, secondCount));
        Check.that(call + ": what goes back", before + backDue(), Chats.linked(x, home));
        Check.that(call + ": STORED", isStored() ? 1 : -1, x.stored(self, 0));
        Check.that(call + ": TO", kind.equals("yes") || kind.equals("presence") || kind.equals("probed") ? 2 : 0, x.to(self, there));
        Check.that(call + ": FROM", kind.equals("ask") && !isBlocked ? 1 : 0, x.from(self, there));
    }

    /** One STANZA is on the LINK to here then, and none on that from here. */
    private void make() {
        String room = kind.equals("in") || kind.equals("out") || kind.equals("said") ? kind : "";
        if (!room.isEmpty()) {
            x.join(first, far);
            x.carryAll();
        }
        switch (kind) {
            case "ask": x.subscribe(friend, self); break;
            case "yes": case "no":
                x.subscribe(first, there);
                x.carry(home, 1);
                if (kind.equals("yes")) x.approve(friend, self);
                else x.deny(friend, self);
                break;
            case "end":
                Chats.befriend(x, friend, first);
                x.unsubscribe(friend, self);
                break;
            case "presence":
                Chats.befriend(x, first, friend);
                x.available(friend, 4);
                break;
            case "probed":
                Chats.befriend(x, first, friend);
                x.available(friend, 4);
                x.carryAll();
                x.available(first, 0);
                x.carry(home, 1);
                break;
            case "message": x.send(friend, self, -1); break;
            case "direct": x.send(friend, self, 0); break;
            case "bounce":
                x.block(friend, self, true);
                x.send(first, there, -1);
                x.carry(home, 1);
                break;
            case "in": x.join(friend, far); break;
            case "out":
                x.join(friend, far);
                x.carryAll();
                x.leave(friend, far);
                break;
            case "said":
                x.join(friend, far);
                x.carryAll();
                x.say(friend, far);
                break;
            default:
                x.say(first, far);
                x.carry(home, 1);
        }
    }

    private String stanzaDue() {
        String r = States.name(friend);
        String room = "g" + far;
        switch (kind) {
            case "ask": return "ask 1 " + there + " to " + self;
            case "yes": return "yes 1 " + there + " to " + self;
            case "no": return "no 1 " + there + " to " + self;
            case "end": return "end 1 " + there + " to " + self;
            case "presence": return "p " + r + " 4 to " + self;
            case "probed": return "p " + r + " 4 to " + States.name(first);
            case "message": return "m 1 " + r + " to " + self;
            case "direct": return "m 1 " + r + " to " + States.name(first);
            case "bounce": return "b 1 unavailable to " + States.name(first);
            case "in": return "in " + room + " " + r + " 2 to " + States.name(first);
            case "out": return "out " + room + " " + r + " to " + States.name(first);
            case "said": return "said " + room + " 1 " + r + " to " + States.name(first);
            default: return "not " + room + " in to " + States.name(first);
        }
    }

    private boolean isPut(int k) {
        switch (kind) {
            case "ask": case "presence": return States.isAvailable(states[k]) && !isBlocked;
            case "yes": case "no": return States.isAvailable(states[k]);
            case "probed": return k == 0 && States.isAvailable(states[0]) && !isBlocked;
            case "end": return false;
            case "message": return !isBlocked && k == best();
            case "direct": return !isBlocked && k == (States.isOff(states[0]) ? best() : 0);
            default: return k == 0 && !States.isOff(states[0]);
        }
    }

    private int best() {
        int firstPriority = States.isAvailable(states[0]) ? States.priorityOf(states[0]) : -1;
        int secondPriority = States.isAvailable(states[1]) ? States.priorityOf(states[1]) : -1;
        if (firstPriority < 0 && secondPriority < 0) return -1;
        return secondPriority > firstPriority ? 1 : 0;
    }

    private boolean isStored() {
        boolean isMessage = kind.equals("message") || kind.equals("direct");
        return isMessage && !isBlocked && !isPut(0) && !isPut(1);
    }

    private String backDue() {
        if (!isBlocked) return "";
        if (kind.equals("ask")) return "no 1 " + self + " to " + there + "; ";
        if (kind.equals("message") || kind.equals("direct")) return "b 1 unavailable to " + States.name(friend) + "; ";
        return "";
    }

    private String newIn(int resource, int count) {
        StringBuilder all = new StringBuilder();
        for (int k = count - x.ofStream(resource, 2); k < x.ofStream(resource, 1) - x.ofStream(resource, 2); k++) {
            all.append(x.due(resource, k));
        }
        return all.toString();
    }
}
