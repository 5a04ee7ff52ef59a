/**
 * Each act that tells another USER something, by each RESOURCE that is ON, in each state of the other
 * one of its USER, with each bond both ways, with a BLOCK and without, at both SERVERS: what goes onto
 * the LINK, what is PUT to the USER itself, and what is answered.
 */
public final class TellTest {
    private static final String[] ACTS = {
        "subscribe", "unsubscribe", "approve", "deny", "block", "unblock", "available", "unavailable", "logout", "letGo"
    };
    private static final int REFUSED = -9;

    private final int home;
    private final int self;
    private final int there;
    private final int friend;
    private final int actor;
    private final int from;
    private final int to;
    private final boolean isBlocked;
    private final int[] states = new int[2];
    private int fromAsk = -1;
    private int toAsk = -1;
    private Twinchat x;

    private TellTest(int home, int which, int bonds, boolean isBlocked) {
        this.home = home;
        this.self = 3 * home;
        this.there = 3 - self;
        this.friend = 2 * there;
        this.actor = 2 * self + which;
        this.from = bonds / 3;
        this.to = bonds % 3;
        this.isBlocked = isBlocked;
    }

    public static void main(String[] args) {
        for (int home = 0; home < 2; home++) {
            for (int which = 0; which < 2; which++) {
                for (int bonds = 0; bonds < 9; bonds++) {
                    new TellTest(home, which, bonds, false).actInEachState();
                    new TellTest(home, which, bonds, true).actInEachState();
                }
            }
        }
        System.exit(Check.closed("TellTest"));
    }

    private void actInEachState() {
        for (int own : States.ALL) {
            for (int other : States.ALL) {
                states[actor % 2] = own;
                states[1 - actor % 2] = other;
                for (String act : ACTS) if (States.isOn(own)) act(act);
                probe();
            }
        }
    }

    /** All is at rest then: nothing is on a LINK. */
    private void prepare() {
        x = Chats.logged(2 * self, 2 * self + 1, friend);
        if (from > 0) fromAsk = x.subscribe(friend, self);
        x.carryAll();
        if (from > 1) x.approve(actor, there);
        x.carryAll();
        if (to > 0) toAsk = x.subscribe(actor, there);
        x.carryAll();
        if (to > 1) x.approve(friend, self);
        x.carryAll();
        if (isBlocked) x.block(actor, there, true);
        States.turn(x, 2 * self, states[0]);
        States.turn(x, 2 * self + 1, states[1]);
        x.carryAll();
    }

    private void act(String act) {
        prepare();
        String call = act + " by " + States.name(actor) + " in " + States.nameOf(states[0]) + ", " + States.nameOf(states[1])
                + ", FROM " + from + " TO " + to + (isBlocked ? " blocked" : "");
        int asks = x.house(7);
        int firstCount = x.ofStream(2 * self, 1);
        int secondCount = x.ofStream(2 * self + 1, 1);
        int refused = x.house(8);
        int answer = answerOf(act);
        Check.that(call, answerDue(act, asks), answer);
        Check.that(call + ": counted", refused + (answer == REFUSED ? 1 : 0), x.house(8));
        Check.that(call + ": on the LINK", answer == REFUSED ? "" : told(act, asks + 1), Chats.linked(x, home));
        if (act.equals("logout") || act.equals("letGo")) return;
        Check.that(call + ": PUT to the first", answer == REFUSED ? "" : putDue(act, 0), newIn(2 * self, firstCount));
        Check.that(call + ": PUT to the second", answer == REFUSED ? "" : putDue(act, 1), newIn(2 * self + 1, secondCount));
    }

    private int answerOf(String act) {
        switch (act) {
            case "subscribe": return x.subscribe(actor, there);
            case "unsubscribe": return x.unsubscribe(actor, there);
            case "approve": return x.approve(actor, there);
            case "deny": return x.deny(actor, there);
            case "block": return x.block(actor, there, true);
            case "unblock": return x.block(actor, there, false);
            case "available": return x.available(actor, 5);
            case "unavailable": return x.unavailable(actor);
            case "logout": return x.logout(actor);
            default:
                x.breaks(actor);
                return x.letGo(actor);
        }
    }

    private boolean wasAvailable() {
        return States.isAvailable(states[actor % 2]);
    }

    private int answerDue(String act, int asks) {
        switch (act) {
            case "subscribe": return isBlocked || to > 0 ? REFUSED : asks + 1;
            case "unsubscribe": return to == 0 ? REFUSED : toAsk;
            case "approve": return from != 1 ? REFUSED : fromAsk;
            case "deny": return from == 0 ? REFUSED : fromAsk;
            case "block": return isBlocked ? REFUSED : 1;
            case "unblock": return isBlocked ? 0 : REFUSED;
            case "unavailable": return wasAvailable() ? States.priorityOf(states[actor % 2]) : REFUSED;
            default: return 0;
        }
    }

    private String told(String act, int ask) {
        boolean isTold = from == 2 && !isBlocked;
        String off = isTold && wasAvailable() ? presence(actor, "off", "" + there) : "";
        switch (act) {
            case "subscribe": return "ask " + ask + " " + self + " to " + there + "; ";
            case "unsubscribe": return "end " + toAsk + " " + self + " to " + there + "; ";
            case "approve": return "yes " + fromAsk + " " + self + " to " + there + "; " + (isBlocked ? "" : ofEach("p", "" + there));
            case "deny": return "no " + fromAsk + " " + self + " to " + there + "; ";
            case "block": return from == 2 ? ofEach("off", "" + there) : "";
            case "unblock": return ofEach((from == 2 ? "p" : "") + (to == 2 ? " probe" : ""), "" + there);
            case "available":
                return (isTold ? presence(actor, "5", "" + there) : "")
                        + (to == 2 && !isBlocked && !wasAvailable() ? "probe " + States.name(actor) + " to " + there + "; " : "");
            case "unavailable": return off;
            default: return off + "leave " + States.name(actor) + " to g" + (1 - home) + "; ";
        }
    }

    private static String presence(int resource, String priority, String target) {
        return "p " + States.name(resource) + " " + priority + " to " + target + "; ";
    }

    /** What is told of each AVAILABLE RESOURCE of the USER, one by one. */
    private String ofEach(String what, String target) {
        StringBuilder all = new StringBuilder();
        for (int k = 0; k < 2; k++) {
            if (!States.isAvailable(states[k])) continue;
            if (what.startsWith("p")) all.append(presence(2 * self + k, "" + States.priorityOf(states[k]), target));
            if (what.startsWith("off")) all.append(presence(2 * self + k, "off", target));
            if (what.endsWith(" probe")) all.append("probe ").append(States.name(2 * self + k)).append(" to ").append(target).append("; ");
        }
        return all.toString();
    }

    private String putDue(String act, int k) {
        if (act.equals("available")) return k == actor % 2 && !wasAvailable() ? "begin" : "";
        boolean isForgotten = act.equals("unsubscribe") || act.equals("block");
        return isForgotten && States.isAvailable(states[k]) ? "forget " + there : "";
    }

    private String newIn(int resource, int count) {
        StringBuilder all = new StringBuilder();
        for (int k = count; k < x.ofStream(resource, 1); k++) all.append(x.due(resource, k));
        return all.toString();
    }

    /** "probe r" comes: answered of each AVAILABLE RESOURCE, to r alone. */
    private void probe() {
        if (from < 2) return;
        prepare();
        x.available(friend, 1);
        String call = "probe of " + States.nameOf(states[0]) + ", " + States.nameOf(states[1]) + (isBlocked ? " blocked" : "");
        String presence = to == 2 ? presence(friend, "1", "" + self) : "";
        Check.that(call, presence + "probe " + States.name(friend) + " to " + self + "; ", Chats.linked(x, 1 - home));
        x.carry(1 - home, 2);
        Check.that(call + ": on the LINK", isBlocked ? "" : ofEach("p", States.name(friend)), Chats.linked(x, home));
    }
}
