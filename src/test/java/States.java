/** The seven states that a stream can be in, for the tests that go through all of them. */
final class States {
    static final int[] ALL = {0, 1, 2, 3, 4, 5, 6};
    private static final int[] HOW = {0, 1, 1, 1, 2, 2, 2};
    private static final int[] PRIORITIES = {-9, -9, -2, 3, -9, -2, 3};
    private static final int NOT_AVAILABLE = -9;

    private States() {
    }

    static boolean isOff(int state) {
        return HOW[state] == 0;
    }

    static boolean isOn(int state) {
        return HOW[state] == 1;
    }

    static boolean isAvailable(int state) {
        return PRIORITIES[state] != NOT_AVAILABLE;
    }

    static int priorityOf(int state) {
        return PRIORITIES[state];
    }

    static String nameOf(int state) {
        return new String[] {"OFF", "ON", "BROKEN"}[HOW[state]] + (isAvailable(state) ? " with " + PRIORITIES[state] : "");
    }

    /** Of a RESOURCE that is ON: what it PUTS on the LINK by that is the caller's to carry. */
    static void turn(Twinchat x, int resource, int state) {
        if (x.ofStream(resource, 5) == 1) x.unavailable(resource);
        if (isAvailable(state)) x.available(resource, PRIORITIES[state]);
        if (HOW[state] == 0) x.logout(resource);
        if (HOW[state] == 2) x.breaks(resource);
    }

    static String name(int resource) {
        return resource / 2 + "." + resource % 2;
    }
}
