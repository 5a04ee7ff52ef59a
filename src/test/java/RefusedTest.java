/**
 * "REFUSED is -9: told where an act can not be done; nothing changes then, but it is counted
 * (exceptions go ahead of it)": each act that can be REFUSED, in each state in which it is.
 */
public final class RefusedTest {
    private interface Act {
        int on(Twinchat x);
    }

    private RefusedTest() {
    }

    public static void main(String[] args) {
        unavailable();
        subscribe();
        unsubscribe();
        approve();
        deny();
        block();
        send();
        raise();
        carry();
        countsEachTime();
        notRefused();
        exceptionsGoAhead();
        System.exit(Check.closed("RefusedTest"));
    }

    /** REFUSED twice: told, counted, and nothing else is changed, nor as 1.0 and 3.0, who are in no ROOM, go on. */
    private static void refused(String name, Twinchat x, Act act) {
        String before = Whole.of(x);
        int count = x.house(8);
        for (int k = 1; k <= 2; k++) {
            Check.that(name, -9, act.on(x));
            Check.that(name + " is counted", count + k, x.house(8));
            Check.that(name + " changes nothing else", before, Whole.of(x));
        }
        String due = Chats.dues(x, 2) + "not g0 in; " + Chats.dues(x, 6) + "not g1 in; ";
        x.say(2, 0);
        x.say(6, 1);
        Check.that(name + " leaves nothing behind", due, Chats.dues(x, 2) + Chats.dues(x, 6));
    }

    /** USER 0 and USER 3 are friends both ways, 0.0, 1.0 and 3.0 are ON and AVAILABLE; one STORED, one due. */
    private static Twinchat house() {
        Twinchat x = Chats.logged(0, 2, 6);
        Chats.befriend(x, 0, 6);
        Chats.befriend(x, 6, 0);
        x.available(0, 1);
        x.available(2, -1);
        x.available(6, 3);
        x.carryAll();
        x.send(0, 1, -1);
        x.send(2, 0, 0);
        return x;
    }

    private static void unavailable() {
        refused("10: never available", Chats.logged(0, 2, 6), x -> x.unavailable(0));
        Twinchat x = house();
        x.unavailable(0);
        refused("10: no longer available", x, y -> y.unavailable(0));
        x = house();
        x.logout(0);
        x.login(0);
        refused("10: on another stream", x, y -> y.unavailable(0));
        x = house();
        x.login(1);
        refused("10: its other one is", x, y -> y.unavailable(1));
    }

    private static void subscribe() {
        Twinchat x = house();
        x.block(0, 4, true);
        refused("11: it blocks that one", x, y -> y.subscribe(0, 4));
        x = house();
        x.subscribe(0, 4);
        refused("11: asked, on the link", x, y -> y.subscribe(0, 4));
        x.carryAll();
        refused("11: asked", x, y -> y.subscribe(0, 4));
        x.login(1);
        refused("11: asked by its other one", x, y -> y.subscribe(1, 4));
        refused("11: subscribed", house(), y -> y.subscribe(0, 3));
        x = house();
        x.block(0, 3, true);
        refused("11: both", x, y -> y.subscribe(0, 3));
    }

    private static void unsubscribe() {
        refused("12: never asked", house(), y -> y.unsubscribe(0, 4));
        Twinchat x = house();
        x.subscribe(2, 0);
        refused("12: from alone", x, y -> y.unsubscribe(0, 1));
        x = house();
        x.unsubscribe(0, 3);
        refused("12: it did already", x, y -> y.unsubscribe(0, 3));
        x = house();
        x.deny(6, 0);
        x.carryAll();
        refused("12: denied", x, y -> y.unsubscribe(0, 3));
    }

    private static void approve() {
        refused("13: nothing", house(), y -> y.approve(0, 4));
        refused("13: subscribed", house(), y -> y.approve(0, 3));
        Twinchat x = house();
        x.subscribe(0, 1);
        refused("13: to alone", x, y -> y.approve(0, 1));
        x = house();
        x.subscribe(6, 1);
        refused("13: the ask is on the link", x, y -> y.approve(2, 3));
        x.carryAll();
        x.deny(2, 3);
        refused("13: denied", x, y -> y.approve(2, 3));
        x = house();
        x.block(2, 0, true);
        x.subscribe(0, 1);
        refused("13: who blocks was not asked", x, y -> y.approve(2, 0));
    }

    private static void deny() {
        refused("14: nothing", house(), y -> y.deny(0, 4));
        Twinchat x = house();
        x.subscribe(0, 1);
        refused("14: to alone", x, y -> y.deny(0, 1));
        x.deny(2, 0);
        refused("14: denied", x, y -> y.deny(2, 0));
        x = house();
        x.unsubscribe(6, 0);
        x.carryAll();
        refused("14: ended", x, y -> y.deny(0, 3));
    }

    private static void block() {
        Twinchat x = house();
        refused("15: it does not", x, y -> y.block(0, 3, false));
        x.block(0, 3, true);
        refused("15: it does", x, y -> y.block(0, 3, true));
        refused("15: another it does not", x, y -> y.block(0, 4, false));
        refused("15: nor the other this one", x, y -> y.block(6, 0, false));
        x.block(0, 3, false);
        refused("15: no longer", x, y -> y.block(0, 3, false));
    }

    private static void send() {
        Twinchat x = house();
        x.block(0, 3, true);
        for (int which = -1; which <= 1; which++) {
            int k = which;
            refused("16: it blocks that one", x, y -> y.send(0, 3, k));
        }
    }

    private static void raise() {
        refused("25: up and proved", house(), y -> y.raise());
        Twinchat x = house();
        Chats.reraise(x);
        refused("25: up and not proved", x, y -> y.raise());
    }

    private static void carry() {
        for (int state = 0; state < 4; state++) {
            Twinchat x = house();
            x.send(0, 3, 0);
            x.send(6, 0, 0);
            x.fail();
            if (state > 0) x.raise();
            if (state > 1) x.prove(state - 2, x.key(state - 2));
            for (int server = 0; server < 2; server++) {
                int from = server;
                refused("28: state " + state, x, y -> y.carry(from, 1));
                refused("28: state " + state, x, y -> y.carry(from, 99));
            }
            refused("29: state " + state, x, y -> y.carryAll());
        }
    }

    private static void countsEachTime() {
        Twinchat x = Chats.logged(0);
        Check.that("47: none", 0, x.house(8));
        for (int k = 1; k <= 400; k++) x.raise();
        Check.that("47: each", 400, x.house(8));
        x.unavailable(0);
        Check.that("47: of whatever act", 401, x.house(8));
    }

    /** What does nothing, or is answered "not", is not REFUSED. */
    private static void notRefused() {
        Twinchat x = house();
        x.leave(0, 0);
        x.say(0, 0);
        x.kick(2, 0, 0);
        x.role(2, 0, 0, 0);
        x.member(2, 0, 1, 1);
        x.moderate(2, 0, true);
        x.join(2, 0);
        x.join(2, 0);
        x.pull(0, 99);
        x.pull(0, 99);
        x.ack(0);
        x.ack(0);
        x.fail();
        x.fail();
        x.raise();
        x.prove(0, -1);
        x.prove(1, x.key(1));
        x.prove(0, x.key(0));
        x.carry(0, 9);
        x.carryAll();
        x.block(6, 0, true);
        x.send(0, 3, 0);
        x.send(0, 4, 1);
        x.carryAll();
        x.logout(2);
        x.breaks(0);
        x.letGo(0);
        x.inbox(0, -1);
        x.stored(0, 9);
        x.fate(0, 0);
        x.said(0, 0);
        x.occupant(0, 9);
        Check.that("47: not once", 0, x.house(8));
    }

    /** "(exceptions go ahead of it)": what would be REFUSED with right arguments and a stream that is ON. */
    private static void exceptionsGoAhead() {
        Twinchat x = Chats.logged(0, 2);
        x.block(0, 3, true);
        x.block(2, 3, true);
        x.breaks(2);
        x.fail();
        String before = Whole.of(x);
        Check.badIndex("10", () -> x.unavailable(12));
        Check.badIndex("11", () -> x.subscribe(0, 6));
        Check.badIndex("15", () -> x.block(-1, 3, true));
        Check.badIndex("16", () -> x.send(0, -1, 0));
        Check.badIndex("28", () -> x.carry(2, 1));
        Check.badArgument("11", () -> x.subscribe(0, 0));
        Check.badArgument("12", () -> x.unsubscribe(0, 0));
        Check.badArgument("13", () -> x.approve(0, 0));
        Check.badArgument("14", () -> x.deny(0, 0));
        Check.badArgument("15", () -> x.block(0, 0, false));
        Check.badArgument("16", () -> x.send(0, 3, 2));
        Check.badArgument("28", () -> x.carry(0, 0));
        Check.badArgument("28", () -> x.carry(1, 100));
        for (int r : new int[] {1, 2}) {
            Check.badState("10", () -> x.unavailable(r));
            Check.badState("11", () -> x.subscribe(r, 3));
            Check.badState("12", () -> x.unsubscribe(r, 4));
            Check.badState("13", () -> x.approve(r, 4));
            Check.badState("14", () -> x.deny(r, 4));
            Check.badState("15", () -> x.block(r, 3, true));
            Check.badState("15", () -> x.block(r, 4, false));
            Check.badState("16", () -> x.send(r, 3, -1));
        }
        Check.that("47: none of them is counted", 0, x.house(8));
        Check.that("47: none of them changes anything", before, Whole.of(x));
    }
}
