/** All that the face tells of a house, so that a test can say of a call that it changed nothing else. */
final class Whole {
    private static final int REFUSALS = 8;

    private Whole() {
    }

    /** Each answer but how often REFUSED was told: that one is counted, and asked apart. */
    static String of(Twinchat x) {
        StringBuilder all = new StringBuilder();
        for (int what = 0; what <= 9; what++) if (what != REFUSALS) add(all, x.house(what));
        for (int r = 0; r < 12; r++) stream(all, x, r);
        for (int u = 0; u < 6; u++) user(all, x, u);
        for (int number = 1; number <= x.house(0); number++) {
            for (int what = 0; what <= 4; what++) add(all, x.fate(number, what));
        }
        for (int server = 0; server < 2; server++) {
            add(all, Chats.linked(x, server));
            add(all, x.key(server));
        }
        for (int g = 0; g < 2; g++) room(all, x, g);
        add(all, x.isStill());
        add(all, x.isSound());
        return all.toString();
    }

    private static void add(StringBuilder all, Object answer) {
        all.append(answer).append(' ');
    }

    private static void stream(StringBuilder all, Twinchat x, int r) {
        all.append("| ").append(r).append(": ");
        for (int what = 0; what <= 6; what++) add(all, x.ofStream(r, what));
        add(all, Chats.dues(x, r));
        for (int k = 0; k < x.ofStream(r, 4); k++) add(all, x.inbox(r, k));
        for (int s = 0; s < 12; s++) add(all, x.sees(r, s));
    }

    private static void user(StringBuilder all, Twinchat x, int u) {
        all.append("| user ").append(u).append(": ");
        for (int v = 0; v < 6; v++) {
            add(all, x.to(u, v));
            add(all, x.from(u, v));
            add(all, x.asked(u, v, true));
            add(all, x.asked(u, v, false));
            add(all, x.blocks(u, v));
        }
        for (int k = 0; k <= 4; k++) add(all, x.stored(u, k));
    }

    private static void room(StringBuilder all, Twinchat x, int g) {
        all.append("| room ").append(g).append(": ");
        for (int what = 0; what <= 2; what++) add(all, x.ofRoom(g, what));
        for (int k = 0; k <= 4; k++) add(all, x.occupant(g, k));
        for (int r = 0; r < 12; r++) add(all, x.roleOf(g, r));
        for (int u = 0; u < 6; u++) add(all, x.affiliation(g, u));
        for (int number = 1; number <= x.ofRoom(g, 1); number++) add(all, x.said(g, number));
    }

    /** The checksum of promise 50, made of what the other promises answer. */
    static long digest(Twinchat x) {
        long d = 7676;
        for (int what = 0; what <= 9; what++) d = d * 31 + x.house(what);
        for (int r = 0; r < 12; r++) {
            for (int what = 0; what <= 6; what++) d = d * 31 + x.ofStream(r, what);
            for (int k = 0; k < x.ofStream(r, 1) - x.ofStream(r, 2); k++) d = summed(d, x.due(r, k));
            for (int s = 0; s < 12; s++) d = summed(d, x.sees(r, s));
        }
        for (int u = 0; u < 6; u++) {
            for (int v = 0; v < 6; v++) {
                d = (d * 31 + x.to(u, v)) * 31 + x.from(u, v);
                d = (d * 31 + x.asked(u, v, true)) * 31 + x.asked(u, v, false);
                d = d * 31 + (x.blocks(u, v) ? 1 : 0);
            }
        }
        for (int u = 0; u < 6; u++) for (int k = 0; k <= 4; k++) d = d * 31 + x.stored(u, k);
        for (int server = 0; server < 2; server++) {
            for (int k = 0; k < x.house(3 + server); k++) d = summed(d, x.onLink(server, k));
            d = d * 31 + x.key(server);
        }
        for (int g = 0; g < 2; g++) {
            for (int what = 0; what <= 2; what++) d = d * 31 + x.ofRoom(g, what);
            for (int k = 0; k <= 4; k++) d = d * 31 + x.occupant(g, k);
            for (int u = 0; u < 6; u++) d = d * 31 + x.affiliation(g, u);
            for (int k = 1; k <= x.ofRoom(g, 1); k++) d = d * 31 + x.said(g, k);
        }
        return d * 31 + (x.isSound() ? 1 : 0);
    }

    private static long summed(long d, String text) {
        for (int k = 0; k < text.length(); k++) d = d * 31 + text.charAt(k);
        return d;
    }
}
