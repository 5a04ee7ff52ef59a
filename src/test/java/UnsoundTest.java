import java.lang.reflect.Array;
import java.lang.reflect.Field;
import java.lang.reflect.Method;

/**
 * Promise 49, the other way: no run of calls makes a house that is not sound, so its inside is
 * spoilt by hand, one clause of the promise at a time.
 */
public final class UnsoundTest {
    private UnsoundTest() {
    }

    public static void main(String[] args) throws ReflectiveOperationException {
        bonds();
        views();
        places();
        inboxes();
        outcasts();
        System.exit(Check.closed("UnsoundTest"));
    }

    /** 0.0 sees 3.0; MESSAGE 1 is RECEIVED, 2 STORED, 3 in a stream, 4 BOUNCED; 1.0 is in ROOM 0. */
    private static Twinchat house() {
        Twinchat x = new Twinchat();
        x.login(0);
        x.login(2);
        x.login(4);
        x.login(6);
        x.available(0, 1);
        x.available(6, 2);
        x.subscribe(0, 3);
        x.carryAll();
        x.approve(6, 0);
        x.carryAll();
        x.pull(0, 99);
        x.send(0, 1, 0);
        x.pull(2, 1);
        x.send(0, 1, -1);
        x.send(0, 1, 0);
        x.block(4, 0, true);
        x.send(0, 2, 0);
        x.join(2, 0);
        Check.that("49: a sound one", true, x.isSound());
        return x;
    }

    private static Object of(Object owner, String name) throws ReflectiveOperationException {
        Field field = owner.getClass().getDeclaredField(name);
        field.setAccessible(true);
        return field.get(owner);
    }

    private static void set(Object array, int k, int value) {
        Array.setInt(array, k, value);
    }

    private static Object streamOf(Twinchat x, int resource) throws ReflectiveOperationException {
        return Array.get(of(x, "streams"), resource);
    }

    private static void unsound(String name, Twinchat x) {
        Check.that("49: " + name, false, x.isSound());
        Check.that("50: 0 at the end: " + name, Whole.digest(x), x.digest());
    }

    private static void bonds() throws ReflectiveOperationException {
        Twinchat x = house();
        set(of(of(x, "followers"), "states"), 3 * 6, 1);
        unsound("FROM is not as TO", x);
        x.send(0, 3, -1);
        Check.that("49: but something is on the link", true, x.isSound());
        x = house();
        set(of(of(x, "following"), "numbers"), 3, 2);
        unsound("another number", x);
        x = house();
        set(of(of(x, "followers"), "states"), 5 * 6 + 4, 2);
        set(of(of(x, "followers"), "numbers"), 5 * 6 + 4, 1);
        unsound("FROM of the last, without TO", x);
        x = house();
        set(of(of(x, "following"), "states"), 5, 1);
        set(of(of(x, "following"), "numbers"), 5, 1);
        unsound("TO of the first, without FROM", x);
        x = house();
        set(of(of(x, "following"), "states"), 5 * 6, 2);
        set(of(of(x, "following"), "numbers"), 5 * 6, 1);
        unsound("TO the first, without FROM", x);
        x = house();
        set(of(of(x, "followers"), "states"), 5, 1);
        unsound("FROM the last, without TO", x);
    }

    private static void views() throws ReflectiveOperationException {
        Twinchat x = house();
        set(of(streamOf(x, 0), "seen"), 6, 3);
        unsound("another priority is seen", x);
        x = house();
        set(of(streamOf(x, 0), "seen"), 11, 3);
        unsound("one is seen that is not there", x);
        x = house();
        set(of(streamOf(x, 0), "seen"), 6, 15);
        unsound("one is not seen", x);
        x = house();
        set(of(streamOf(x, 0), "seen"), 0, 1);
        unsound("one sees itself", x);
        x = house();
        x.pull(6, 99);
        set(of(streamOf(x, 6), "seen"), 0, 1);
        unsound("the first is seen", x);
        x = house();
        x.login(11);
        x.available(11, 0);
        x.pull(11, 1);
        set(of(streamOf(x, 11), "seen"), 0, 1);
        unsound("the last sees", x);
        x = house();
        set(of(streamOf(x, 2), "seen"), 6, 2);
        Check.that("49: what one sees that is not available does not matter", true, x.isSound());
        x = house();
        Array.setBoolean(of(x, "blockings"), 3 * 6, true);
        unsound("seen in spite of a block", x);
        x = house();
        Array.setBoolean(of(x, "blockings"), 3, true);
        unsound("sees in spite of a block", x);
    }

    private static void places() throws ReflectiveOperationException {
        Twinchat x = house();
        set(of(of(x, "post"), "keptCounts"), 1, 0);
        unsound("one is nowhere", x);
        x = house();
        set(of(of(x, "post"), "kept"), 5, 3);
        unsound("one is stored and in a stream", x);
        x = house();
        Array.setBoolean(of(of(x, "post"), "areBounced"), 0, true);
        unsound("one is received and bounced", x);
        x = house();
        set(of(of(x, "post"), "takers"), 2, 0);
        unsound("one is received and due", x);
        x = house();
        Array.setBoolean(of(of(x, "post"), "areBounced"), 3, false);
        unsound("the last is nowhere", x);
        x = house();
        x.send(6, 0, 0);
        Array.setBoolean(of(of(x, "post"), "areBounced"), 4, true);
        unsound("one is bounced and on the link", x);
        x = house();
        x.send(2, 0, 0);
        Array.setBoolean(of(of(x, "post"), "areBounced"), 4, true);
        unsound("one is bounced and in the first stream", x);
        x = house();
        x.available(0, -1);
        x.send(2, 0, -1);
        Array.setBoolean(of(of(x, "post"), "areBounced"), 4, true);
        unsound("one is bounced and stored of the first user", x);
        x = house();
        x.send(6, 5, -1);
        Array.setBoolean(of(of(x, "post"), "areBounced"), 4, true);
        unsound("one is bounced and stored of the last user", x);
        x = house();
        x.login(11);
        x.send(6, 5, 1);
        Array.setBoolean(of(of(x, "post"), "areBounced"), 4, true);
        unsound("one is bounced and in the last stream", x);
        x = house();
        for (int k = 0; k < 4; k++) x.send(4, 1, -1);
        Array.setBoolean(of(of(x, "post"), "areBounced"), 7, true);
        unsound("one is bounced and the fifth that is stored", x);
    }

    private static void inboxes() throws ReflectiveOperationException {
        Twinchat x = house();
        Object post = of(x, "post");
        Method receive = post.getClass().getDeclaredMethod("receive", int.class, int.class);
        receive.setAccessible(true);
        receive.invoke(post, 1, 2);
        unsound("an inbox has one twice", x);
    }

    private static void outcasts() throws ReflectiveOperationException {
        Twinchat x = house();
        set(of(of(x, "firstRoom"), "ranks"), 1, 3);
        unsound("an outcast is in", x);
        x = house();
        x.join(6, 1);
        set(of(of(x, "secondRoom"), "ranks"), 3, 3);
        unsound("an outcast is in the other room", x);
    }
}
