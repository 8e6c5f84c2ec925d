/** Promises 1 to 8: a new object; plug, unplug, driver, load, unbind, bind, reset. */
public final class DevicesTest {
    private static final int NONE = DriverMoor.NONE;

    public static void main(String[] args) {
        newObject();
        plugNumbers();
        plugRefusals();
        plugWindows();
        windowsWithinWindows();
        plugLines();
        plugOrder();
        plugWakesNeeds();
        allInOneChain();
        unplugSubtree();
        unplugOrder();
        unplugLeavesHusk();
        driverChoice();
        driverLimits();
        loadFirmware();
        unbindAll();
        unbindOrder();
        unbindAlone();
        bindAgain();
        bindWhileSuspended();
        resetEndsAll();
        resetSavedRegister();
        Due.end("DevicesTest");
    }

    /** A device without window and line, right under the ROOT or under another. */
    private static int plain(DriverMoor x, int parent, int id) {
        return x.plug(parent, id, 0, NONE, false, NONE, NONE);
    }

    private static void newObject() {
        DriverMoor x = new DriverMoor();
        Due.noDevice("1 isThere(0)", () -> x.isThere(0));
        Due.noDevice("1 load(0, 0)", () -> x.load(0, 0));
        Due.noDevice("1 close(0)", () -> x.close(0));
        Due.noDevice("1 callState(0)", () -> x.callState(0));
        Due.is("1 events()", x.events(), 0);
        Due.is("1 faults()", x.faults(), 0);
        for (int what = 0; what < 4; what++) {
            Due.is("1 given", x.given(what), 0);
        }
        for (int line = 0; line < 8; line++) {
            Due.is("1 strikes", x.strikes(line), 0);
        }
        Due.badState("1 resume()", x::resume);
        Due.is("1 the tick is 0", x.pass(1), 1);
    }

    private static void plugNumbers() {
        DriverMoor x = new DriverMoor();
        for (int i = 0; i < 24; i++) {
            Due.is("2 numbers", x.plug(i == 0 ? NONE : i - 1, 31, 8, 7, true, NONE, NONE), i);
        }
        Due.badState("2 the 25th", () -> plain(x, NONE, 0));
        x.unplug(23);
        Due.badState("2 24 ever", () -> plain(x, NONE, 0));
        Due.is("2 refused without a driver", x.reason(0), 1);
    }

    private static void plugRefusals() {
        DriverMoor x = new DriverMoor();
        x.driver(0b0011, 0, 0, false);
        x.driver(0b0100, 0, 3, false);
        int bus = plain(x, NONE, 0);
        int strange = plain(x, NONE, 9);
        Due.is("2 no driver ahead of a parent that is not bound", x.reason(plain(x, strange, 8)), 1);
        Due.is("2 a parent that is not bound ahead of a supplier",
                x.reason(x.plug(strange, 0, 0, NONE, false, strange, NONE)), 2);
        Due.is("2 the first supplier", x.reason(x.plug(bus, 0, 0, NONE, false, strange, bus)), 3);
        Due.is("2 the second supplier ahead of firmware",
                x.reason(x.plug(bus, 2, 0, NONE, false, bus, strange)), 3);
        int large = x.plug(NONE, 0, 1, 0, false, NONE, NONE);
        Due.is("2 firmware ahead of room", x.reason(x.plug(large, 2, 8, NONE, false, NONE, NONE)), 4);
        Due.is("2 room ahead of the line", x.reason(x.plug(large, 0, 8, 0, false, NONE, NONE)), 5);
        Due.is("2 the line", x.reason(x.plug(large, 0, 1, 0, false, NONE, NONE)), 6);
        Due.is("2 nothing", x.reason(x.plug(large, 1, 1, NONE, false, bus, large)), 0);
        Due.is("2 a supplier that is the parent", x.reason(x.plug(bus, 1, 0, NONE, false, NONE, bus)), 0);
    }

    private static void plugWindows() {
        DriverMoor x = new DriverMoor();
        x.driver(1, 0, 0, false);
        int[] sizes = {1, 2, 8, 4, 1, 0};
        int[] begins = {0, 2, 8, 4, 1, NONE};
        for (int i = 0; i < sizes.length; i++) {
            Due.is("2 the lowest multiple that is free",
                    x.window(x.plug(NONE, 0, sizes[i], NONE, false, NONE, NONE)), begins[i]);
        }
        for (int place = 16; place < 64; place += 8) {
            Due.is("2 the ROOT's places", x.window(x.plug(NONE, 0, 8, NONE, false, NONE, NONE)), place);
        }
        Due.is("2 63 is the last place", x.reason(x.plug(NONE, 0, 1, NONE, false, NONE, NONE)), 5);
        Due.is("2 all places", x.given(0), 64);
    }

    private static void windowsWithinWindows() {
        DriverMoor x = new DriverMoor();
        x.driver(1, 0, 0, false);
        x.plug(NONE, 0, 8, NONE, false, NONE, NONE);
        int bus = x.plug(NONE, 0, 4, NONE, false, NONE, NONE);
        int hub = plain(x, bus, 0);
        int half = x.plug(hub, 0, 2, NONE, false, NONE, NONE);
        int whole = x.plug(bus, 0, 2, NONE, false, NONE, NONE);
        Due.is("2 in the window of the nearest ancestor that has one", x.window(half), 8);
        Due.is("2 beside the one of the same space", x.window(whole), 10);
        Due.is("2 a window of its own is a space of its own",
                x.window(x.plug(half, 0, 2, NONE, false, NONE, NONE)), 8);
        Due.is("2 larger than its space", x.reason(x.plug(half, 0, 4, NONE, false, NONE, NONE)), 5);
        Due.is("2 the space is full", x.reason(x.plug(bus, 0, 1, NONE, false, NONE, NONE)), 5);
        Due.is("2 the ROOT's places again", x.window(x.plug(NONE, 0, 1, NONE, false, NONE, NONE)), 12);
    }

    private static void plugLines() {
        DriverMoor x = new DriverMoor();
        x.driver(1, 0, 0, false);
        int shares = x.plug(NONE, 0, 0, 0, true, NONE, NONE);
        Due.is("2 all share", x.reason(x.plug(NONE, 0, 0, 0, true, NONE, NONE)), 0);
        int alone = x.plug(NONE, 0, 0, 0, false, NONE, NONE);
        Due.is("2 this one does not share", x.reason(alone), 6);
        x.unbind(shares);
        Due.is("2 another still has it", x.reason(alone), 6);
        x.unbind(1);
        Due.is("2 no one has it", x.reason(alone), 0);
        Due.is("2 the one that has it does not share", x.reason(shares), 6);
        Due.is("2 line 7", x.reason(x.plug(NONE, 0, 0, 7, false, NONE, NONE)), 0);
        Due.is("2 no line is always right", x.reason(plain(x, NONE, 0)), 0);
        Due.is("2 also for another", x.reason(plain(x, NONE, 0)), 0);
    }

    private static void plugOrder() {
        DriverMoor x = new DriverMoor();
        plain(x, NONE, 0);
        x.plug(0, 0, 0, 3, false, NONE, NONE);
        x.plug(NONE, 0, 0, 3, false, NONE, NONE);
        x.plug(NONE, 0, 0, NONE, false, 1, NONE);
        x.driver(1, 0, 0, false);
        Due.is("2 the lowest first, again and again", Events.from(x, 0), "bound 0, bound 1, bound 3");
        x.unbind(1);
        Due.is("2 another one gets the line", Events.from(x, 3), "unbound 3, unbound 1, bound 2");
        x.unplug(2);
        Due.is("2 by hand it stays unbound", Events.from(x, 6), "unbound 2, unplugged 2");
        x.bind(1);
        Due.is("2 the lowest again", Events.from(x, 8), "bound 1, bound 3");
    }

    private static void plugWakesNeeds() {
        DriverMoor x = new DriverMoor();
        x.driver(1, 0, 0, false);
        plain(x, NONE, 0);
        plain(x, NONE, 0);
        plain(x, NONE, 0);
        x.plug(2, 0, 0, NONE, false, NONE, NONE);
        x.pass(20);
        int before = x.events();
        x.plug(3, 0, 0, NONE, false, 1, 0);
        Due.is("2 wakes its parent, then its suppliers, the first first", Events.from(x, before),
                "woken 2, woken 3, woken 1, woken 0, bound 4");
        x.pass(4);
        Due.is("2 it was touched when it was bound", x.isOn(4), true);
        x.pass(1);
        Due.is("2 that is 5 ticks ago", x.isOn(4), false);
        Due.is("2 its parent was held till then", x.isOn(3), true);
    }

    private static void allInOneChain() {
        DriverMoor x = new DriverMoor();
        for (int i = 0; i < 24; i++) {
            x.plug(i - 1, 0, 8, NONE, false, i - 2 < 0 ? NONE : i - 2, i - 1);
        }
        x.driver(1, 0, 0, true);
        Due.is("4 all are bound behind one call", x.given(3), 24);
        Due.is("4 each fills the window above", x.window(23) * 100 + x.given(0), 8);
        x.open(23);
        x.set(0, 77);
        x.pass(50);
        x.pass(50);
        x.pass(20);
        Due.is("17 asleep one after the other", x.events(), 48);
        Due.is("13 saved", x.get(0), 77);
        Due.is("13 all are woken for the lowest", x.events(), 72);
        Due.is("13 that one last", x.eventOf(71), 23);
        Due.is("18 none refuses", x.suspend(), NONE);
        Due.is("19 all", x.resume(), 24);
        Due.is("3 all", x.unplug(0), 24);
        Due.is("3 nothing is given", x.given(0) + x.given(3), 0);
    }

    private static void unplugSubtree() {
        DriverMoor x = new DriverMoor();
        x.driver(1, 0, 0, false);
        plain(x, NONE, 0);
        plain(x, 0, 0);
        plain(x, NONE, 0);
        plain(x, 1, 5);
        x.plug(2, 0, 0, NONE, false, 1, NONE);
        Due.is("3 with all that is below it", x.unplug(0), 3);
        Due.is("3 there no more", x.isThere(0) || x.isThere(1) || x.isThere(3), false);
        Due.is("3 others are there", x.isThere(2) && x.isThere(4), true);
        Due.is("3 a supplier is gone for good", x.reason(4), 3);
        Due.is("3 what was unplugged", x.reason(1), 8);
        Due.badState("3 twice", () -> x.unplug(3));
        Due.is("3 one alone", x.unplug(4), 1);
        Due.is("3 bound ones", x.given(3), 1);
    }

    private static void unplugOrder() {
        DriverMoor x = new DriverMoor();
        x.driver(0b01, 0, 0, false);
        plain(x, NONE, 0);
        plain(x, 0, 1);
        plain(x, 0, 0);
        x.plug(NONE, 0, 0, 5, false, 2, NONE);
        x.plug(NONE, 0, 0, 5, false, NONE, NONE);
        plain(x, 3, 1);
        x.driver(0b10, 0, 0, false);
        Due.is("3 bound", Events.from(x, 0), "bound 0, bound 2, bound 3, bound 1, bound 5");
        x.unplug(0);
        Due.is("3 all together unbound, then there no more", Events.from(x, 5),
                "unbound 5, unbound 1, unbound 3, unbound 2, unbound 0, "
                + "unplugged 2, unplugged 1, unplugged 0, bound 4");
    }

    private static void unplugLeavesHusk() {
        DriverMoor x = new DriverMoor();
        x.driver(1, 0, 0, false);
        x.plug(NONE, 0, 2, 1, false, NONE, NONE);
        x.open(0);
        x.call(0, 20);
        x.map(0, 1);
        x.raise(0);
        x.unbind(0);
        x.raise(0);
        Due.is("3 pending though it is not bound", x.isPending(0), true);
        x.unplug(0);
        Due.is("3 pending no more", x.isPending(0), false);
        Due.is("3 a handle of the husk", x.handles(0), 1);
        Due.is("3 its call", x.callState(0), DriverMoor.ABORTED);
        Due.is("3 given back", x.given(0) + x.given(1) + x.given(2) + x.given(3), 0);
        Due.is("3 no driver", x.driverOf(0), NONE);
        Due.is("3 no window", x.window(0), NONE);
        Due.is("3 a dead handle is closed", x.close(0), true);
        Due.is("3 no handles", x.handles(0), 0);
        Due.noDevice("3 nothing is plugged into it", () -> plain(x, 0, 0));
        Due.badState("3 nor is it bound by hand", () -> x.bind(0));
    }

    private static void driverChoice() {
        DriverMoor x = new DriverMoor();
        plain(x, NONE, 31);
        plain(x, NONE, 30);
        Due.is("4 numbers", x.driver(1 << 30, 0, 0, false), 0);
        Due.is("4 the bit 30", x.driverOf(1), 0);
        Due.is("4 not the bit 31", x.driverOf(0), NONE);
        Due.is("4 numbers", x.driver(1 << 31, 0, 0, false), 1);
        Due.is("4 the bit 31", x.driverOf(0), 1);
        x.driver(-1, 9, 9, false);
        Due.is("4 what is bound keeps its driver", x.driverOf(0), 1);
        x.unbind(0);
        Due.is("4 the greatest rank", x.driverOf(0), 2);
        Due.is("4 though its firmware is not loaded", x.reason(0), 4);
        x.driver(-1, 9, 0, false);
        Due.is("4 of several the lowest", x.driverOf(0), 2);
        DriverMoor y = new DriverMoor();
        y.driver(0, 9, 0, false);
        Due.is("4 an empty table", y.reason(plain(y, NONE, 0)), 1);
    }

    private static void driverLimits() {
        DriverMoor x = new DriverMoor();
        for (int i = 0; i < 8; i++) {
            Due.is("4 numbers", x.driver(-1, 9, i == 7 ? 9 : 0, true), i);
        }
        Due.badState("4 the ninth", () -> x.driver(1, 0, 0, false));
        Due.badArgument("4 rank -1", () -> x.driver(1, -1, 0, false));
        Due.badArgument("4 rank 10", () -> x.driver(1, 10, 0, false));
        Due.badArgument("4 firmware -1", () -> x.driver(1, 0, -1, false));
        Due.badArgument("4 firmware 10", () -> x.driver(1, 0, 10, false));
    }

    private static void loadFirmware() {
        DriverMoor x = new DriverMoor();
        x.driver(1, 0, 5, false);
        plain(x, NONE, 0);
        Due.is("5 0 at first", x.load(0, 4), 0);
        Due.is("5 less than it needs", x.reason(0), 4);
        Due.is("5 the version before", x.load(0, 5), 4);
        Due.is("5 at least what it needs", x.reason(0), 0);
        Due.is("5 an older one", x.load(0, 0), 5);
        Due.is("5 what is bound stays so", x.reason(0), 0);
        x.unbind(0);
        Due.is("5 but is not bound again", x.bind(0), 4);
        Due.is("5 the greatest version", x.load(0, 9), 0);
        Due.is("5 bound", x.reason(0), 0);
        Due.badArgument("5 version 10", () -> x.load(0, 10));
        Due.badArgument("5 version -1", () -> x.load(0, -1));
    }

    private static void unbindAll() {
        DriverMoor x = new DriverMoor();
        x.driver(1, 0, 0, false);
        x.plug(NONE, 0, 4, 2, true, NONE, NONE);
        x.plug(0, 0, 2, 2, true, NONE, NONE);
        x.plug(NONE, 0, 1, NONE, false, NONE, 1);
        x.plug(2, 0, 0, NONE, false, NONE, NONE);
        x.plug(NONE, 0, 8, 3, false, NONE, NONE);
        x.open(1);
        x.map(0, 2);
        x.call(0, 9);
        x.pass(5);
        Due.is("6 below it, supplied by it, and so on", x.unbind(0), 4);
        Due.is("6 calls end", x.callState(0), DriverMoor.ABORTED);
        Due.is("6 maps are gone", x.given(2), 0);
        Due.is("6 windows and lines are free", x.given(0) * 10 + x.given(1), 81);
        Due.is("6 no window", x.window(1), NONE);
        Due.is("6 not ON", x.isOn(0) || x.isOn(1), false);
        Due.is("6 by hand", x.reason(0), 7);
        Due.is("6 its child waits", x.reason(1), 2);
        Due.is("6 what it supplied waits", x.reason(2), 3);
        Due.badState("6 not bound", () -> x.unbind(0));
        Due.badState("6 not bound either", () -> x.unbind(1));
        x.raise(4);
        Due.is("6 asleep and pending", x.isPending(4), true);
        Due.is("6 one alone", x.unbind(4), 1);
        Due.is("6 pending no more", x.isPending(4), false);
    }

    private static void unbindOrder() {
        DriverMoor x = new DriverMoor();
        x.driver(1, 0, 0, false);
        plain(x, NONE, 0);
        plain(x, 0, 0);
        plain(x, NONE, 0);
        x.plug(NONE, 0, 0, NONE, false, 2, 0);
        x.unbind(1);
        x.bind(1);
        Due.is("6 the one that was bound last first", x.unbind(0), 3);
        Due.is("6 in that order", Events.from(x, 6), "unbound 1, unbound 3, unbound 0");
        x.bind(0);
        Due.is("6 others are bound again", Events.from(x, 9), "bound 0, bound 1, bound 3");
        x.pass(9);
        Due.is("6 the last first asleep", Events.from(x, 12), "slept 3, slept 1");
    }

    private static void unbindAlone() {
        DriverMoor x = new DriverMoor();
        x.driver(1, 0, 0, false);
        for (int i = 0; i < 4; i++) {
            plain(x, NONE, 0);
        }
        for (int device = 0; device < 4; device++) {
            Due.is("6 one that was unbound before is left alone", x.unbind(device), 1);
            x.bind(device);
        }
        Due.is("6 all are bound", x.given(3), 4);
    }

    private static void bindAgain() {
        DriverMoor x = new DriverMoor();
        x.driver(0b11, 0, 0, false);
        x.plug(NONE, 0, 0, 0, false, NONE, NONE);
        x.plug(NONE, 0, 0, 0, false, NONE, NONE);
        Due.badState("7 bound", () -> x.bind(0));
        Due.badState("7 not unbound by hand", () -> x.bind(1));
        x.unbind(0);
        Due.is("7 refused behind that", x.bind(0), 6);
        Due.badState("7 not by hand any more", () -> x.bind(0));
        x.unbind(1);
        Due.is("7 bound", x.reason(0), 0);
        x.unbind(0);
        Due.is("7 bound by it", x.bind(1), 0);
        Due.is("7 by hand comes behind the line", x.reason(0), 6);
        x.unplug(0);
        Due.badState("7 there no more", () -> x.bind(0));
        Due.noDevice("7 no such device", () -> x.bind(2));
    }

    private static void bindWhileSuspended() {
        DriverMoor x = new DriverMoor();
        x.driver(1, 0, 0, false);
        plain(x, NONE, 0);
        x.unbind(0);
        x.suspend();
        Due.is("7 by hand", x.reason(0), 7);
        Due.is("7 not refused while the world is suspended", x.bind(0), 0);
        Due.is("7 nor bound", x.given(3), 0);
        Due.is("7 nothing refuses it", x.reason(0), NONE);
        Due.is("7 none is woken", x.resume(), 0);
        Due.is("7 bound behind that", x.reason(0), 0);
    }

    private static void resetEndsAll() {
        DriverMoor x = new DriverMoor();
        x.driver(1, 0, 0, false);
        x.plug(NONE, 0, 1, 0, false, NONE, NONE);
        plain(x, NONE, 0);
        x.open(0);
        x.open(0);
        x.open(1);
        x.call(0, 1);
        x.pass(1);
        x.call(0, 4);
        x.call(1, 4);
        x.call(2, 4);
        x.map(0, 3);
        x.map(2, 4);
        x.set(0, 55);
        int before = x.events();
        Due.is("8 how many calls end", x.reset(0), 2);
        Due.is("8 a call that was over", x.callState(0), DriverMoor.FINISHED);
        Due.is("8 calls of all handles", x.callState(1) + x.callState(2), 2 * DriverMoor.ABORTED);
        Due.is("8 not those of others", x.callState(3), DriverMoor.GOING);
        Due.is("8 its maps", x.access(0, 0), NONE);
        Due.is("8 not those of others", x.access(1, 1), 4);
        Due.is("8 no event", x.events(), before);
        Due.is("8 bound still", x.window(0), 0);
        Due.is("8 the register, and the handle lives", x.get(0), 0);
        Due.is("8 nothing ends", x.reset(0), 0);
        x.pass(4);
        x.suspend();
        Due.badState("8 suspended", () -> x.reset(0));
        x.resume();
        x.unbind(1);
        Due.badState("8 not bound", () -> x.reset(1));
    }

    private static void resetSavedRegister() {
        DriverMoor x = new DriverMoor();
        x.driver(1, 0, 0, true);
        x.plug(NONE, 0, 0, 0, false, NONE, NONE);
        x.open(0);
        x.set(0, 9);
        x.suspend();
        x.raise(0);
        x.openLine(0);
        Due.is("8 pending", x.isPending(0), true);
        x.resume();
        Due.is("8 asked", x.isPending(0), false);
        x.pass(5);
        Due.is("8 asleep", x.isOn(0), false);
        x.reset(0);
        Due.is("8 is not woken", x.isOn(0), false);
        Due.is("8 what was saved is 0", x.get(0), 0);
        DriverMoor y = new DriverMoor();
        y.driver(1, 0, 0, false);
        y.plug(NONE, 0, 0, 0, false, NONE, NONE);
        y.pass(5);
        y.raise(0);
        Due.is("8 pending", y.isPending(0), true);
        y.reset(0);
        Due.is("8 not pending", y.isPending(0), false);
    }
}
