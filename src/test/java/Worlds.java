/** Makes worlds and plugs devices in by what a test cares for alone. */
final class Worlds {
    static final int NONE = DriverMoor.NONE;
    /** Ids of the drivers of a world that is made here: the one loses registers, the other saves them. */
    static final int LOSES = 0;
    static final int SAVES = 1;
    /** An id that no driver knows. */
    static final int UNKNOWN = 9;
    /** What is out of range, and far out of range, on both sides. */
    static final int[] FAR = {Integer.MIN_VALUE, Integer.MIN_VALUE + 1, -1000, 1000, Integer.MAX_VALUE};

    private Worlds() {
    }

    static DriverMoor made() {
        DriverMoor x = new DriverMoor();
        x.driver(1 << LOSES, 0, 0, false);
        x.driver(1 << SAVES, 0, 0, true);
        return x;
    }

    /** A world with some devices right under the ROOT, without windows and lines, that lose registers. */
    static DriverMoor with(int devices) {
        DriverMoor x = made();
        for (int i = 0; i < devices; i++) {
            under(x, NONE);
        }
        return x;
    }

    static int under(DriverMoor x, int parent) {
        return x.plug(parent, LOSES, 0, NONE, false, NONE, NONE);
    }

    static int ofId(DriverMoor x, int id) {
        return x.plug(NONE, id, 0, NONE, false, NONE, NONE);
    }

    static int sized(DriverMoor x, int parent, int size) {
        return x.plug(parent, LOSES, size, NONE, false, NONE, NONE);
    }

    static int lined(DriverMoor x, int id, int line) {
        return x.plug(NONE, id, 0, line, true, NONE, NONE);
    }

    static int needing(DriverMoor x, int parent, int first, int second) {
        return x.plug(parent, LOSES, 0, NONE, false, first, second);
    }

    /** Three strikes: a device that is not bound raises its line, and none handles that. */
    static void shut(DriverMoor x, int line) {
        int stranger = lined(x, UNKNOWN, line);
        for (int i = 0; i < 3; i++) {
            x.raise(stranger);
        }
    }
}
