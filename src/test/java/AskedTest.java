/** Promises 22 to 35: isThere, reason, driverOf, window, isOn, isPending, strikes to eventOf. */
public final class AskedTest {
    private static final int NONE = DriverMoor.NONE;

    public static void main(String[] args) {
        noSuchNumbers();
        isThere();
        reason();
        driverOf();
        window();
        isOnAndPending();
        strikes();
        handles();
        callState();
        faults();
        givenPlaces();
        givenLinesSlotsDevices();
        eventsOfAllKinds();
        eventsKept();
        Due.end("AskedTest");
    }

    private static DriverMoor world() {
        DriverMoor x = new DriverMoor();
        x.driver(1, 0, 0, false);
        return x;
    }

    private static int plain(DriverMoor x, int parent, int id) {
        return x.plug(parent, id, 0, NONE, false, NONE, NONE);
    }

    private static void noSuchNumbers() {
        DriverMoor x = world();
        plain(x, NONE, 0);
        int[] wrong = {-1, 1, 24, Integer.MAX_VALUE, Integer.MIN_VALUE};
        for (int number : wrong) {
            Due.noDevice("22", () -> x.isThere(number));
            Due.noDevice("23", () -> x.reason(number));
            Due.noDevice("24", () -> x.driverOf(number));
            Due.noDevice("25", () -> x.window(number));
            Due.noDevice("26", () -> x.isOn(number));
            Due.noDevice("27", () -> x.isPending(number));
            Due.noDevice("28", () -> x.strikes(number == 1 ? 8 : number));
            Due.noDevice("29", () -> x.handles(number));
            Due.noDevice("30", () -> x.callState(number));
            Due.badArgument("32", () -> x.given(number == 1 ? 4 : number));
            Due.noDevice("34", () -> x.eventKind(number));
            Due.noDevice("35", () -> x.eventOf(number));
        }
        Due.noDevice("30 no call was made", () -> x.callState(0));
    }

    private static void isThere() {
        DriverMoor x = world();
        plain(x, NONE, 9);
        Due.is("22 there, though not bound", x.isThere(0), true);
        x.unplug(0);
        Due.is("22 there no more", x.isThere(0), false);
    }

    private static void reason() {
        DriverMoor x = new DriverMoor();
        x.plug(NONE, 0, 0, 0, false, NONE, NONE);
        Due.is("23 no driver", x.reason(0), 1);
        x.driver(1, 0, 1, false);
        Due.is("23 firmware", x.reason(0), 4);
        x.suspend();
        Due.is("23 firmware, suspended", x.reason(0), 4);
        x.load(0, 1);
        Due.is("23 nothing refuses it, suspended", x.reason(0), NONE);
        plain(x, 0, 0);
        Due.is("23 its parent is not bound yet", x.reason(1), 2);
        x.plug(NONE, 0, 0, 0, false, NONE, NONE);
        Due.is("23 the line is free yet", x.reason(2), NONE);
        x.resume();
        Due.is("23 bound", x.reason(0) + x.reason(1), 0);
        Due.is("23 the line is not free", x.reason(2), 6);
        x.suspend();
        Due.is("23 bound, suspended", x.reason(0), 0);
        x.unplug(0);
        Due.is("23 there no more", x.reason(0) * 10 + x.reason(1), 88);
        Due.is("23 the line is free, suspended", x.reason(2), NONE);
    }

    private static void driverOf() {
        DriverMoor x = new DriverMoor();
        plain(x, NONE, 0);
        Due.is("24 none", x.driverOf(0), NONE);
        x.driver(2, 0, 0, false);
        x.driver(1, 0, 9, false);
        Due.is("24 by which it would be", x.driverOf(0), 1);
        x.driver(1, 1, 0, false);
        Due.is("24 to which it is bound", x.driverOf(0), 2);
        x.driver(1, 2, 0, false);
        Due.is("24 stays", x.driverOf(0), 2);
        x.unbind(0);
        Due.is("24 would be", x.driverOf(0), 3);
        x.bind(0);
        Due.is("24 is bound", x.driverOf(0), 3);
        x.unplug(0);
        Due.is("24 there no more", x.driverOf(0), NONE);
    }

    private static void window() {
        DriverMoor x = world();
        x.plug(NONE, 0, 8, NONE, false, NONE, NONE);
        x.plug(NONE, 0, 8, NONE, false, NONE, NONE);
        plain(x, 1, 0);
        x.plug(1, 5, 1, NONE, false, NONE, NONE);
        Due.is("25 where it begins", x.window(1), 8);
        Due.is("25 it has none", x.window(2), NONE);
        Due.is("25 not bound", x.window(3), NONE);
        x.pass(20);
        Due.is("25 asleep", x.window(1), 8);
        x.unbind(0);
        Due.is("25 unbound", x.window(0), NONE);
        Due.is("25 the others stay", x.window(1), 8);
        x.unplug(1);
        Due.is("25 there no more", x.window(1), NONE);
    }

    private static void isOnAndPending() {
        DriverMoor x = world();
        x.plug(NONE, 0, 0, 0, false, NONE, NONE);
        x.plug(NONE, 3, 0, 1, false, NONE, NONE);
        Due.is("26 ON", x.isOn(0), true);
        Due.is("26 not bound", x.isOn(1), false);
        x.raise(1);
        Due.is("27 pending", x.isPending(1), true);
        Due.is("27 not pending", x.isPending(0), false);
        x.driver(8, 0, 0, true);
        Due.is("27 bound", x.isPending(1), false);
        x.pass(5);
        Due.is("26 asleep", x.isOn(0), false);
        x.raise(0);
        Due.is("27 asleep and pending", x.isPending(0), true);
        x.unplug(0);
        Due.is("26 there no more", x.isOn(0), false);
        Due.is("27 there no more", x.isPending(0), false);
    }

    private static void strikes() {
        DriverMoor x = new DriverMoor();
        x.plug(NONE, 0, 0, 7, false, NONE, NONE);
        for (int i = 1; i <= 4; i++) {
            x.raise(0);
            Due.is("28 strikes", x.strikes(7), Math.min(i, 3));
        }
        Due.is("28 another line", x.strikes(0), 0);
    }

    private static void handles() {
        DriverMoor x = world();
        plain(x, NONE, 0);
        plain(x, NONE, 0);
        x.open(0);
        x.open(0);
        x.open(1);
        Due.is("29 open ones", x.handles(0), 2);
        x.unbind(0);
        Due.is("29 dead ones are counted", x.handles(0), 2);
        x.close(1);
        Due.is("29 closed ones are not", x.handles(0), 1);
        x.bind(0);
        x.open(0);
        Due.is("29 dead and new ones", x.handles(0), 2);
        x.unplug(0);
        Due.is("29 of a husk", x.handles(0), 2);
        Due.is("29 of another", x.handles(1), 1);
    }

    private static void callState() {
        DriverMoor x = world();
        plain(x, NONE, 0);
        x.open(0);
        x.call(0, 2);
        x.call(0, 3);
        Due.is("30 goes on", x.callState(0), DriverMoor.GOING);
        x.pass(2);
        Due.is("30 over", x.callState(0), DriverMoor.FINISHED);
        x.unbind(0);
        Due.is("30 over before", x.callState(0), DriverMoor.FINISHED);
        Due.is("30 unbound", x.callState(1), DriverMoor.ABORTED);
        x.pass(5);
        Due.is("30 stays so", x.callState(1), DriverMoor.ABORTED);
    }

    private static void faults() {
        DriverMoor x = world();
        plain(x, NONE, 5);
        for (int i = 0; i < 3; i++) {
            Due.is("31 how many", x.faults(), i);
            Due.is("31 not bound", x.access(0, i), NONE);
        }
        Due.noDevice("31 not that", () -> x.access(0, 16));
        Due.is("31 how many", x.faults(), 3);
    }

    private static void givenPlaces() {
        DriverMoor x = world();
        x.plug(NONE, 0, 8, NONE, false, NONE, NONE);
        x.plug(0, 0, 4, NONE, false, NONE, NONE);
        plain(x, 0, 0);
        x.plug(2, 0, 2, NONE, false, NONE, NONE);
        Due.is("32 only those without an ancestor with a window", x.given(0), 8);
        plain(x, NONE, 0);
        x.plug(4, 0, 2, NONE, false, NONE, NONE);
        Due.is("32 its ancestor has none", x.given(0), 10);
        x.plug(NONE, 7, 4, NONE, false, NONE, NONE);
        Due.is("32 not bound", x.given(0), 10);
        x.unbind(0);
        Due.is("32 given back", x.given(0), 2);
    }

    private static void givenLinesSlotsDevices() {
        DriverMoor x = world();
        x.plug(NONE, 0, 0, 0, true, NONE, NONE);
        x.plug(NONE, 0, 0, 0, true, NONE, NONE);
        x.plug(NONE, 0, 0, 7, true, NONE, NONE);
        plain(x, NONE, 0);
        x.plug(NONE, 7, 0, 5, true, NONE, NONE);
        Due.is("32 a line counts once, and not for one that is not bound", x.given(1), 2);
        Due.is("32 bound ones", x.given(3), 4);
        x.open(0);
        x.map(0, 1);
        x.map(0, 2);
        Due.is("32 slots", x.given(2), 2);
        x.unbind(0);
        Due.is("32 another still has the line", x.given(1), 2);
        Due.is("32 slots given back", x.given(2), 0);
        Due.is("32 bound ones", x.given(3), 3);
        x.unbind(1);
        Due.is("32 the line given back", x.given(1), 1);
    }

    private static void eventsOfAllKinds() {
        DriverMoor x = world();
        x.plug(NONE, 0, 0, 6, false, NONE, NONE);
        x.pass(5);
        x.open(0);
        x.raise(0);
        x.raise(0);
        x.raise(0);
        x.get(0);
        x.unplug(0);
        Due.is("34 35 all kinds", Events.from(x, 0),
                "bound 0, slept 0, shut 6, woken 0, unbound 0, unplugged 0");
        Due.is("33 how many", x.events(), 6);
        int[] kinds = {DriverMoor.BOUND, DriverMoor.SLEPT, DriverMoor.SHUT, DriverMoor.WOKEN,
            DriverMoor.UNBOUND, DriverMoor.UNPLUGGED};
        for (int event = 0; event < kinds.length; event++) {
            Due.is("34 the kind", x.eventKind(event), kinds[event]);
        }
        Due.noDevice("34 not yet", () -> x.eventKind(6));
        Due.noDevice("35 not yet", () -> x.eventOf(6));
    }

    private static void eventsKept() {
        DriverMoor x = world();
        for (int i = 0; i < 23; i++) {
            plain(x, NONE, 0);
            Due.is("33 how many", x.events(), i + 1);
            Due.is("35 the latest", x.eventOf(i), i);
            if (i >= 19) {
                int kept = i - 19;
                Due.is("35 the oldest that is kept", x.eventOf(kept), kept);
                Due.is("34 the oldest that is kept", x.eventKind(kept), DriverMoor.BOUND);
                Due.noDevice("34 not kept", () -> x.eventKind(kept - 1));
                Due.noDevice("35 not kept", () -> x.eventOf(kept - 1));
            }
        }
        x.unplug(4);
        Due.is("34 the latest", Events.from(x, 23), "unbound 4, unplugged 4");
        Due.noDevice("34 driven out", () -> x.eventKind(4));
        Due.is("35 the oldest", x.eventOf(5), 5);
    }
}
