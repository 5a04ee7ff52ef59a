/** Every promise that throws: which exception, which of several, and that nothing changes. */
public final class WrongInputsTest {
    private static final int[] NO_RESOURCES = {-1, 12, Integer.MIN_VALUE, Integer.MAX_VALUE};
    private static final int[] NO_USERS = {-1, 6, Integer.MIN_VALUE, Integer.MAX_VALUE};
    private static final int[] NO_PAIRS = {-1, 2, Integer.MIN_VALUE, Integer.MAX_VALUE};

    private final Twinchat x;
    private final long before;

    /** RESOURCE 0 is ON, 1 OFF, 2 BROKEN. */
    private WrongInputsTest() {
        x = new Twinchat();
        x.login(0);
        x.login(2);
        x.login(6);
        x.available(0, 1);
        x.subscribe(0, 3);
        x.send(0, 3, -1);
        x.send(0, 1, 0);
        x.breaks(2);
        before = x.digest();
    }

    public static void main(String[] args) {
        new WrongInputsTest().run();
        System.exit(Check.closed("WrongInputsTest"));
    }

    private void run() {
        indexes();
        arguments();
        states();
    }

    private void index(String name, Check.Call call) {
        Check.badIndex(name, call);
        unchanged(name);
    }

    private void argument(String name, Check.Call call) {
        Check.badArgument(name, call);
        unchanged(name);
    }

    private void state(String name, Check.Call call) {
        Check.badState(name, call);
        unchanged(name);
    }

    private void unchanged(String name) {
        Check.that(name + " changes nothing", before, x.digest());
    }

    /** All else is wrong too where it can be: the first that is named is thrown. */
    private void indexes() {
        for (int r : NO_RESOURCES) {
            index("2", () -> x.login(r));
            index("3", () -> x.pull(r, 0));
            index("4", () -> x.ack(r));
            index("5", () -> x.breaks(r));
            index("6", () -> x.resume(r));
            index("7", () -> x.letGo(r));
            index("8", () -> x.logout(r));
            index("9", () -> x.available(r, 10));
            index("10", () -> x.unavailable(r));
            index("11", () -> x.subscribe(r, 0));
            index("12", () -> x.unsubscribe(r, 0));
            index("13", () -> x.approve(r, 0));
            index("14", () -> x.deny(r, 0));
            index("15", () -> x.block(r, 0, true));
            index("16", () -> x.send(r, 0, 2));
            index("17", () -> x.join(r, 0));
            index("18", () -> x.leave(r, 0));
            index("19", () -> x.say(r, 0));
            index("20", () -> x.kick(r, 0, 0));
            index("20", () -> x.kick(1, 0, r));
            index("21", () -> x.role(r, 0, 0, 2));
            index("21", () -> x.role(1, 0, r, 2));
            index("22", () -> x.member(r, 0, 0, 2));
            index("23", () -> x.moderate(r, 0, true));
            index("30", () -> x.ofStream(r, 7));
            index("31", () -> x.inbox(r, -1));
            index("32", () -> x.due(r, -1));
            index("33", () -> x.sees(r, 0));
            index("33", () -> x.sees(0, r));
            index("43", () -> x.roleOf(0, r));
        }
        for (int u : NO_USERS) {
            index("11", () -> x.subscribe(1, u));
            index("12", () -> x.unsubscribe(1, u));
            index("13", () -> x.approve(1, u));
            index("14", () -> x.deny(1, u));
            index("15", () -> x.block(1, u, false));
            index("16", () -> x.send(1, u, 2));
            index("22", () -> x.member(1, 0, u, 2));
            index("34", () -> x.to(u, 0));
            index("34", () -> x.to(0, u));
            index("35", () -> x.from(u, 0));
            index("35", () -> x.from(0, u));
            index("36", () -> x.asked(u, 0, true));
            index("36", () -> x.asked(0, u, false));
            index("37", () -> x.blocks(u, 0));
            index("37", () -> x.blocks(0, u));
            index("38", () -> x.stored(u, 0));
            index("44", () -> x.affiliation(0, u));
        }
        for (int g : NO_PAIRS) {
            index("17", () -> x.join(1, g));
            index("18", () -> x.leave(1, g));
            index("19", () -> x.say(1, g));
            index("20", () -> x.kick(1, g, 0));
            index("21", () -> x.role(1, g, 0, 2));
            index("22", () -> x.member(1, g, 0, 2));
            index("23", () -> x.moderate(1, g, true));
            index("26", () -> x.key(g));
            index("27", () -> x.prove(g, 0));
            index("28", () -> x.carry(g, 0));
            index("40", () -> x.onLink(g, -1));
            index("41", () -> x.ofRoom(g, 3));
            index("42", () -> x.occupant(g, 0));
            index("43", () -> x.roleOf(g, 0));
            index("44", () -> x.affiliation(g, 0));
            index("45", () -> x.said(g, 0));
        }
    }

    private void arguments() {
        for (int many : new int[] {0, 100, -1, Integer.MAX_VALUE, Integer.MIN_VALUE}) {
            argument("3", () -> x.pull(1, many));
            argument("28", () -> x.carry(0, many));
        }
        for (int priority : new int[] {-6, 10, Integer.MAX_VALUE, Integer.MIN_VALUE}) {
            argument("9", () -> x.available(1, priority));
        }
        argument("11", () -> x.subscribe(1, 0));
        argument("12", () -> x.unsubscribe(1, 0));
        argument("13", () -> x.approve(1, 0));
        argument("14", () -> x.deny(1, 0));
        argument("15", () -> x.block(1, 0, true));
        argument("16", () -> x.send(1, 0, -1));
        for (int which : new int[] {-2, 2, Integer.MAX_VALUE, Integer.MIN_VALUE}) {
            argument("16", () -> x.send(1, 3, which));
        }
        for (int role : new int[] {-1, 2, Integer.MAX_VALUE, Integer.MIN_VALUE}) {
            argument("21", () -> x.role(1, 0, 0, role));
        }
        for (int rank : new int[] {-1, 2, 4, Integer.MAX_VALUE, Integer.MIN_VALUE}) {
            argument("22", () -> x.member(1, 0, 3, rank));
        }
        for (int what : new int[] {-1, 10, Integer.MAX_VALUE, Integer.MIN_VALUE}) {
            argument("30", () -> x.ofStream(0, what));
            argument("39", () -> x.fate(1, what));
            argument("39", () -> x.fate(-1, what));
            argument("41", () -> x.ofRoom(0, what));
            argument("47", () -> x.house(what));
        }
        argument("30", () -> x.ofStream(0, 7));
        argument("39", () -> x.fate(1, 5));
        argument("41", () -> x.ofRoom(0, 3));
    }

    private void states() {
        state("2: on", () -> x.login(0));
        state("2: broken", () -> x.login(2));
        state("6: on", () -> x.resume(0));
        state("6: off", () -> x.resume(1));
        state("7: on", () -> x.letGo(0));
        state("7: off", () -> x.letGo(1));
        for (int r = 1; r < 3; r++) {
            int resource = r;
            state("3", () -> x.pull(resource, 1));
            state("4", () -> x.ack(resource));
            state("5", () -> x.breaks(resource));
            state("8", () -> x.logout(resource));
            state("9", () -> x.available(resource, 0));
            state("10", () -> x.unavailable(resource));
            state("11", () -> x.subscribe(resource, 4));
            state("12", () -> x.unsubscribe(resource, 4));
            state("13", () -> x.approve(resource, 4));
            state("14", () -> x.deny(resource, 4));
            state("15", () -> x.block(resource, 4, true));
            state("15", () -> x.block(resource, 4, false));
            state("16", () -> x.send(resource, 4, 0));
            state("17", () -> x.join(resource, 0));
            state("18", () -> x.leave(resource, 0));
            state("19", () -> x.say(resource, 0));
            state("20", () -> x.kick(resource, 0, 0));
            state("21", () -> x.role(resource, 0, 0, 0));
            state("22", () -> x.member(resource, 0, 3, 1));
            state("23", () -> x.moderate(resource, 0, true));
        }
    }
}
