/** What several tests begin with, and what they look at. */
final class Chats {
    private Chats() {
    }

    static Twinchat logged(int... resources) {
        Twinchat x = new Twinchat();
        for (int r : resources) x.login(r);
        return x;
    }

    /** The USER of one is SUBSCRIBED TO that of the other, all at rest. */
    static void befriend(Twinchat x, int one, int other) {
        x.subscribe(one, other / 2);
        x.carryAll();
        x.approve(other, one / 2);
        x.carryAll();
    }

    static String linked(Twinchat x, int server) {
        StringBuilder all = new StringBuilder();
        for (int k = 0; !x.onLink(server, k).equals("-"); k++) all.append(x.onLink(server, k)).append("; ");
        return all.toString();
    }

    static String dues(Twinchat x, int resource) {
        StringBuilder all = new StringBuilder();
        for (int k = 0; !x.due(resource, k).equals("-"); k++) all.append(x.due(resource, k)).append("; ");
        return all.toString();
    }

    /** All that is behind PULLED, and it is pulled: what a test asks next is new. */
    static String pulled(Twinchat x, int resource) {
        String all = dues(x, resource);
        for (int k = 0; k < 9 && x.pull(resource, 99) > 0; k++) continue;
        return all;
    }

    static void pullAll(Twinchat x) {
        for (int r = 0; r < 12; r++) if (x.ofStream(r, 0) == 1) pulled(x, r);
    }

    static void send(Twinchat x, int resource, int user, int which, int many) {
        for (int k = 0; k < many; k++) x.send(resource, user, which);
    }

    /** The LINK has failed and is raised, not PROVED. */
    static void reraise(Twinchat x) {
        x.fail();
        x.raise();
    }
}
