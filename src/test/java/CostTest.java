import java.lang.management.ManagementFactory;

/** All calls of a run live in one room: what the longest runs make stays far below it. */
public final class CostTest {
    /** 7.3 million fields and elements would be some 29 million bytes at 4 bytes each. */
    private static final long MOST_BYTES = 4000000;

    private CostTest() {
    }

    public static void main(String[] args) {
        com.sun.management.ThreadMXBean threads = (com.sun.management.ThreadMXBean) ManagementFactory.getThreadMXBean();
        for (int kind = 0; kind < 4; kind++) {
            run(kind);
            long before = threads.getThreadAllocatedBytes(Thread.currentThread().getId());
            int calls = run(kind);
            long made = threads.getThreadAllocatedBytes(Thread.currentThread().getId()) - before;
            Check.that("calls of kind " + kind, true, calls <= 512);
            Check.that("bytes of kind " + kind + ": " + made, true, made < MOST_BYTES);
        }
        beyond();
        System.exit(Check.closed("CostTest"));
    }

    private static int run(int kind) {
        Twinchat x = new Twinchat();
        int calls = 0;
        for (int r = 0; r < 12; r++) {
            x.login(r);
            x.available(r, 0);
            calls += 2;
        }
        for (int u = 0; u < 6; u++) {
            for (int v = 0; v < 6; v++) {
                if (u != v) {
                    x.subscribe(2 * u, v);
                    calls++;
                }
            }
        }
        x.carryAll();
        for (int u = 0; u < 6; u++) {
            for (int v = 0; v < 6; v++) {
                if (u != v) {
                    x.approve(2 * u, v);
                    calls++;
                }
            }
        }
        x.carryAll();
        for (int r = 0; r < 5; r++) {
            x.join(r, 0);
            calls++;
        }
        return more(x, kind, calls + 3);
    }

    private static int more(Twinchat x, int kind, int start) {
        int calls = start;
        for (int k = 0; calls < 500; k++) {
            if (kind == 0) {
                x.digest();
                calls++;
            } else if (kind == 1) {
                x.unavailable(k % 12);
                x.available(k % 12, 3);
                x.carryAll();
                calls += 3;
            } else if (kind == 2) {
                x.send(2, 0, 0);
                x.send(2, 0, 0);
                x.logout(k % 2);
                x.login(k % 2);
                x.available(k % 2, 2);
                calls += 5;
            } else {
                x.say(0, 0);
                x.inbox(0, k);
                x.due(0, k);
                x.pull(0, 5);
                calls += 4;
            }
        }
        x.digest();
        return calls + 1;
    }

    /** What is answered behind the 512th call is free, but it must be an answer. */
    private static void beyond() {
        Twinchat x = new Twinchat();
        x.login(0);
        x.login(2);
        x.join(0, 0);
        int answers = 0;
        for (int k = 0; k < 3000; k++) {
            Object sent = Check.answerOf("send", () -> x.send(0, 1, 0));
            Object said = Check.answerOf("say", () -> x.say(0, 0));
            Object linked = Check.answerOf("send", () -> x.send(2, 3, 0));
            if (sent instanceof Integer && said instanceof Integer && linked instanceof Integer) answers++;
        }
        Check.that("answers", 3000, answers);
        Check.that("digest", true, Check.answerOf("digest", x::digest) instanceof Long);
        Check.that("carryAll", true, Check.answerOf("carryAll", x::carryAll) instanceof Integer);
    }
}
