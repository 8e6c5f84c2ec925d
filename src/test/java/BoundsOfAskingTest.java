/**
 * The sentences of "Events", of the constants, and of promises 22 to 35, that name a bound: a test for
 * each.
 */
public final class BoundsOfAskingTest {
    private static final int NONE = DriverMoor.NONE;

    public static void main(String[] args) {
        constants();
        noSuchDevice();
        noSuchLineCallEvent();
        whatOutOfRange();
        askingChangesNothing();
        askedWhileSuspended();
        thereFromPlugToUnplug();
        reasonNoneWhileSuspended();
        driverOfTheBestOrNone();
        windowOfTheFirstPlace();
        onFromBindToUnbind();
        strikesZeroToThree();
        handlesZeroToForty();
        callStates();
        faultsFromZero();
        givenPlaces();
        givenLines();
        givenSlots();
        givenDevices();
        noEvents();
        latestTwenty();
        moreThanTwentyByOneCall();
        eventKinds();
        whatIsNoEvent();
        all512Calls();
        Due.end("BoundsOfAskingTest");
    }

    private static void constants() {
        Due.is("NONE", DriverMoor.NONE, -1);
        Due.is("GOING", DriverMoor.GOING, 0);
        Due.is("FINISHED", DriverMoor.FINISHED, 1);
        Due.is("ABORTED", DriverMoor.ABORTED, 2);
        Due.is("BOUND", DriverMoor.BOUND, 0);
        Due.is("UNBOUND", DriverMoor.UNBOUND, 1);
        Due.is("UNPLUGGED", DriverMoor.UNPLUGGED, 2);
        Due.is("SLEPT", DriverMoor.SLEPT, 3);
        Due.is("WOKEN", DriverMoor.WOKEN, 4);
        Due.is("SHUT", DriverMoor.SHUT, 5);
    }

    /** "An IndexOutOfBoundsException is thrown if there is no such device". */
    private static void noSuchDevice() {
        DriverMoor x = Worlds.with(2);
        noDevice(x, -1);
        noDevice(x, -2);
        noDevice(x, 2);
        noDevice(x, 23);
        noDevice(x, 24);
        for (int wrong : Worlds.FAR) {
            noDevice(x, wrong);
        }
        x.unplug(0);
        for (int known = 0; known < 2; known++) {
            Due.is("what is gone can be asked for", x.isPending(known) || x.handles(known) != 0, false);
        }
    }

    private static void noDevice(DriverMoor x, int wrong) {
        Due.noDevice("22 " + wrong, () -> x.isThere(wrong));
        Due.noDevice("23 " + wrong, () -> x.reason(wrong));
        Due.noDevice("24 " + wrong, () -> x.driverOf(wrong));
        Due.noDevice("25 " + wrong, () -> x.window(wrong));
        Due.noDevice("26 " + wrong, () -> x.isOn(wrong));
        Due.noDevice("27 " + wrong, () -> x.isPending(wrong));
        Due.noDevice("29 " + wrong, () -> x.handles(wrong));
    }

    private static void noSuchLineCallEvent() {
        DriverMoor x = Worlds.with(2);
        x.call(x.open(0), 1);
        for (int wrong : new int[] {-1, -2, 8, 9}) {
            Due.noDevice("28 " + wrong, () -> x.strikes(wrong));
        }
        for (int wrong : new int[] {-1, -2, 1, 99, 100}) {
            Due.noDevice("30 " + wrong, () -> x.callState(wrong));
        }
        for (int wrong : new int[] {-1, -2, 2, 19, 20}) {
            Due.noDevice("34 " + wrong, () -> x.eventKind(wrong));
            Due.noDevice("35 " + wrong, () -> x.eventOf(wrong));
        }
        for (int wrong : Worlds.FAR) {
            Due.noDevice("28 " + wrong, () -> x.strikes(wrong));
            Due.noDevice("30 " + wrong, () -> x.callState(wrong));
            Due.noDevice("34 " + wrong, () -> x.eventKind(wrong));
            Due.noDevice("35 " + wrong, () -> x.eventOf(wrong));
        }
    }

    /** Promise 32: "IllegalArgumentException if what is out of range". */
    private static void whatOutOfRange() {
        DriverMoor x = new DriverMoor();
        for (int wrong : new int[] {-1, -2, 4, 5}) {
            Due.badArgument("32 " + wrong, () -> x.given(wrong));
        }
        for (int wrong : Worlds.FAR) {
            Due.badArgument("32 " + wrong, () -> x.given(wrong));
        }
        for (int what = 0; what <= 3; what++) {
            Due.is("32 nothing", x.given(what), 0);
        }
    }

    private static void askingChangesNothing() {
        DriverMoor x = Worlds.with(2);
        Worlds.lined(x, Worlds.SAVES, 0);
        x.map(x.open(2), 3);
        x.pass(5);
        String before = Story.of(x);
        Due.is("what is asked twice", Story.of(x), before);
        Due.is("asking does not wake", x.isOn(2), false);
    }

    private static void askedWhileSuspended() {
        DriverMoor x = Worlds.made();
        x.plug(NONE, 0, 8, 7, false, NONE, NONE);
        x.call(x.open(0), 1);
        x.map(0, 1);
        x.pass(1);
        x.suspend();
        Due.is("22 there", x.isThere(0), true);
        Due.is("23 24 25 bound still, to 0, at 0", x.reason(0) + x.driverOf(0) + x.window(0), 0);
        Due.is("26 27 asleep, not pending", x.isOn(0) || x.isPending(0), false);
        Due.is("29 one handle", x.handles(0), 1);
        Due.is("30 over", x.callState(0), DriverMoor.FINISHED);
        Due.is("32 all is given still", x.given(0) * 1000 + x.given(1) * 100 + x.given(2) * 10 + x.given(3), 8111);
    }

    /** Promise 22. */
    private static void thereFromPlugToUnplug() {
        DriverMoor x = Worlds.with(1);
        int strange = Worlds.ofId(x, Worlds.UNKNOWN);
        Due.is("22 bound, and never bound", x.isThere(0) && x.isThere(strange), true);
        x.unbind(0);
        Due.is("22 unbound", x.isThere(0), true);
        x.unplug(0);
        x.unplug(strange);
        Due.is("22 unplugged", x.isThere(0) || x.isThere(strange), false);
    }

    /** Promise 23: "NONE if nothing refuses it, while the world is suspended". */
    private static void reasonNoneWhileSuspended() {
        DriverMoor x = Worlds.made();
        x.suspend();
        x.plug(NONE, 0, 8, 0, false, NONE, NONE);
        x.plug(NONE, 0, 8, 0, false, NONE, NONE);
        Worlds.under(x, 0);
        Worlds.needing(x, NONE, 1, NONE);
        Due.is("23 nothing refuses it", x.reason(0), NONE);
        Due.is("23 nor the other, as the line is free yet", x.reason(1), NONE);
        Due.is("23 a parent that is not bound yet does", x.reason(2), 2);
        Due.is("23 a supplier that is not bound yet does", x.reason(3), 3);
        x.resume();
        Due.is("23 bound", x.reason(0) + x.reason(2), 0);
        Due.is("23 its line, its supplier", x.reason(1) * 10 + x.reason(3), 63);
    }

    /** Promise 24: "the driver to which a device is bound, or by which it would be". */
    private static void driverOfTheBestOrNone() {
        DriverMoor x = new DriverMoor();
        Worlds.ofId(x, 5);
        Due.is("24 none", x.driverOf(0), NONE);
        x.driver(1 << 5, 0, 9, false);
        Due.is("24 would be, though refused", x.driverOf(0), 0);
        x.driver(1 << 5, 1, 0, false);
        x.driver(1 << 5, 2, 0, false);
        Due.is("24 bound, whatever comes", x.driverOf(0), 1);
        x.suspend();
        x.unbind(0);
        Due.is("24 would be", x.driverOf(0), 2);
        x.unplug(0);
        Due.is("24 there no more", x.driverOf(0), NONE);
    }

    /** Promise 25: "the place; NONE if it has none, or is not bound". */
    private static void windowOfTheFirstPlace() {
        DriverMoor x = Worlds.made();
        for (int i = 0; i < 8; i++) {
            Worlds.sized(x, NONE, 8);
        }
        Due.is("25 the first place, not NONE", x.window(0), 0);
        Due.is("25 the last that 8 can have", x.window(7), 56);
        Due.is("25 it has none", x.window(Worlds.under(x, 7)), NONE);
        Due.is("25 no room, not bound", x.window(Worlds.sized(x, NONE, 1)), NONE);
        x.unplug(7);
        Due.is("25 there no more", x.window(7), NONE);
    }

    /** Promise 26: "whether a device is bound and ON". */
    private static void onFromBindToUnbind() {
        DriverMoor x = Worlds.with(1);
        Due.is("26 bound", x.isOn(0), true);
        x.pass(5);
        Due.is("26 asleep", x.isOn(0), false);
        x.get(x.open(0));
        Due.is("26 woken", x.isOn(0), true);
        x.unbind(0);
        Due.is("26 not bound", x.isOn(0), false);
        x.bind(0);
        x.unplug(0);
        Due.is("26 there no more", x.isOn(0), false);
        Due.is("26 never bound", x.isOn(Worlds.ofId(x, Worlds.UNKNOWN)), false);
    }

    /** Promise 28: "the strikes of a line; 3 if it is shut". */
    private static void strikesZeroToThree() {
        DriverMoor x = Worlds.made();
        Worlds.lined(x, Worlds.UNKNOWN, 0);
        for (int raised = 0; raised < 6; raised++) {
            Due.is("28 strikes", x.strikes(0), raised < 3 ? raised : 3);
            x.raise(0);
        }
    }

    /** Promise 29: "how many handles of a device are open, dead ones counted". */
    private static void handlesZeroToForty() {
        DriverMoor x = Worlds.with(2);
        for (int i = 0; i < 40; i++) {
            Due.is("29 open", x.handles(0), i);
            x.open(0);
        }
        Due.is("29 all 40", x.handles(0), 40);
        Due.is("29 of another none", x.handles(1), 0);
        x.unplug(0);
        for (int i = 40; i > 0; i--) {
            Due.is("29 dead", x.handles(0), i);
            x.close(i - 1);
        }
        Due.is("29 none", x.handles(0), 0);
    }

    /** Promise 30: "GOING, FINISHED or ABORTED", for each of what ends a call. */
    private static void callStates() {
        DriverMoor x = Worlds.with(5);
        for (int device = 0; device < 5; device++) {
            x.call(x.open(device), device == 0 ? 1 : 2);
            Due.is("30 goes on", x.callState(device), DriverMoor.GOING);
        }
        x.pass(1);
        x.close(1);
        x.reset(2);
        x.unbind(3);
        x.unplug(4);
        Due.is("30 over", x.callState(0), DriverMoor.FINISHED);
        for (int call = 1; call < 5; call++) {
            Due.is("30 closed, reset, unbound, unplugged", x.callState(call), DriverMoor.ABORTED);
        }
        x.pass(1);
        Due.is("30 ended once", x.callState(1) + x.callState(4), 2 * DriverMoor.ABORTED);
    }

    /** Promise 31. */
    private static void faultsFromZero() {
        DriverMoor x = Worlds.with(1);
        for (int i = 0; i < 200; i++) {
            Due.is("31 how many", x.faults(), i);
            x.access(0, i % 16);
        }
    }

    /** Promise 32: "0 places of windows that bound devices without an ancestor with a window have". */
    private static void givenPlaces() {
        DriverMoor x = Worlds.with(1);
        Due.is("32 none", x.given(0), 0);
        int bus = Worlds.sized(x, 0, 8);
        Due.is("32 an ancestor without a window", x.given(0), 8);
        Worlds.sized(x, Worlds.under(x, bus), 8);
        Due.is("32 an ancestor with a window", x.given(0), 8);
        for (int i = 0; i < 7; i++) {
            Worlds.sized(x, NONE, 8);
        }
        Due.is("32 all", x.given(0), 64);
        Worlds.sized(x, NONE, 8);
        Due.is("32 no more", x.given(0), 64);
        x.unbind(0);
        Due.is("32 its place is given to the one that waits", x.given(0), 64);
        x.unplug(11);
        Due.is("32 given back", x.given(0), 56);
    }

    /** "1 lines that some bound device has". */
    private static void givenLines() {
        DriverMoor x = Worlds.made();
        Worlds.lined(x, Worlds.UNKNOWN, 0);
        Due.is("32 not bound", x.given(1), 0);
        for (int line = 7; line >= 0; line--) {
            Worlds.lined(x, Worlds.LOSES, line);
            Worlds.lined(x, Worlds.LOSES, line);
            Due.is("32 a line counts once", x.given(1), 8 - line);
        }
        x.pass(5);
        Due.is("32 asleep they have it", x.given(1), 8);
        x.unbind(1);
        Due.is("32 another has it still", x.given(1), 8);
        x.unplug(2);
        Due.is("32 none has it", x.given(1), 7);
        Worlds.shut(x, 6);
        Due.is("32 a shut one counts", x.given(1), 7);
    }

    /** "2 slots that are mapped". */
    private static void givenSlots() {
        DriverMoor x = Worlds.with(2);
        x.open(0);
        x.open(1);
        for (int i = 0; i < 16; i++) {
            Due.is("32 mapped", x.given(2), i);
            x.map(i % 2, 3);
        }
        Due.is("32 all", x.given(2), 16);
        x.unmap(0, 0);
        Due.is("32 one less", x.given(2), 15);
        x.close(1);
        x.pass(5);
        Due.is("32 closed handles and sleep do not matter", x.given(2), 15);
        x.reset(0);
        Due.is("32 reset", x.given(2), 8);
        x.unplug(1);
        Due.is("32 unplugged", x.given(2), 0);
    }

    /** "3 bound devices". */
    private static void givenDevices() {
        DriverMoor x = Worlds.made();
        for (int i = 0; i < 24; i++) {
            Due.is("32 bound", x.given(3), i);
            Worlds.under(x, NONE);
        }
        Due.is("32 all", x.given(3), 24);
        x.suspend();
        Due.is("32 asleep", x.given(3), 24);
        x.unbind(0);
        x.unplug(23);
        x.bind(0);
        Due.is("32 not those that wait", x.given(3), 22);
    }

    private static void noEvents() {
        DriverMoor x = new DriverMoor();
        Due.is("33 none", x.events(), 0);
        Due.noDevice("34 none", () -> x.eventKind(0));
        Due.noDevice("35 none", () -> x.eventOf(0));
        Due.noDevice("34 none", () -> x.eventKind(-20));
        Due.noDevice("35 none", () -> x.eventOf(-20));
    }

    /** "numbered from 0; the latest 20 are kept": through several rounds of 20. */
    private static void latestTwenty() {
        DriverMoor x = Worlds.with(1);
        for (int last = 0; last < 62; last++) {
            int first = Math.max(0, last - 19);
            Due.is("33 how many", x.events(), last + 1);
            Due.is("34 the latest", x.eventKind(last), last % 2 == 0 ? DriverMoor.BOUND : DriverMoor.UNBOUND);
            Due.is("34 the oldest", x.eventKind(first), first % 2 == 0 ? DriverMoor.BOUND : DriverMoor.UNBOUND);
            Due.noDevice("34 not kept any more", () -> x.eventKind(first - 1));
            Due.noDevice("35 not kept any more", () -> x.eventOf(first - 1));
            int next = last + 1;
            Due.noDevice("34 not yet", () -> x.eventKind(next));
            Due.noDevice("35 not yet", () -> x.eventOf(next));
            if (last % 2 == 0) {
                x.unbind(0);
            } else {
                x.bind(0);
            }
        }
    }

    private static void moreThanTwentyByOneCall() {
        DriverMoor x = Worlds.made();
        for (int i = 0; i < 24; i++) {
            Worlds.under(x, i - 1);
        }
        x.unplug(0);
        Due.is("33 24 times bound, unbound, unplugged", x.events(), 72);
        Due.noDevice("34 not kept", () -> x.eventKind(51));
        Due.noDevice("35 not kept", () -> x.eventOf(51));
        for (int event = 52; event < 72; event++) {
            Due.is("34 kept", x.eventKind(event), DriverMoor.UNPLUGGED);
            Due.is("35 the greatest first", x.eventOf(event), 71 - event);
        }
    }

    /** "Each time that a device is bound, unbound, unplugged, falls ASLEEP, or is woken ..., or a line is shut". */
    private static void eventKinds() {
        DriverMoor x = Worlds.made();
        Worlds.lined(x, Worlds.LOSES, 6);
        x.pass(5);
        x.raise(0);
        x.raise(0);
        x.raise(0);
        x.get(x.open(0));
        x.unbind(0);
        x.unplug(0);
        int[] kinds = {DriverMoor.BOUND, DriverMoor.SLEPT, DriverMoor.SHUT, DriverMoor.WOKEN,
            DriverMoor.UNBOUND, DriverMoor.UNPLUGGED};
        Due.is("33 all", x.events(), kinds.length);
        for (int event = 0; event < kinds.length; event++) {
            Due.is("34 the kind", x.eventKind(event), kinds[event]);
            Due.is("35 the device, or the line of a SHUT", x.eventOf(event), event == 2 ? 6 : 0);
        }
    }

    private static void whatIsNoEvent() {
        DriverMoor x = new DriverMoor();
        Worlds.lined(x, 0, 0);
        x.driver(1, 0, 1, false);
        x.load(0, 0);
        x.raise(0);
        x.openLine(0);
        x.suspend();
        x.resume();
        Due.is("33 not plugged, added, loaded, raised, opened", x.events(), 0);
        x.load(0, 1);
        int handle = x.open(0);
        x.call(handle, 1);
        x.set(handle, 1);
        x.get(handle);
        x.unmap(handle, x.map(handle, 1));
        x.access(0, 0);
        x.pass(1);
        x.reset(0);
        x.close(handle);
        Due.is("33 nor used, reset, closed", x.events(), 1);
    }

    /** "An object is used for at most 512 calls after it has been made": up to the last all holds. */
    private static void all512Calls() {
        DriverMoor x = Worlds.with(1);
        int used = 3;
        x.set(x.open(0), 99);
        used += 2;
        for (int tick = 50; used < 509; tick += 50) {
            Due.is("17 the tick", x.pass(50), tick);
            used++;
        }
        Due.is("12 the 510th", x.set(0, 7), 0);
        Due.is("13 the 511th", x.get(0), 7);
        Due.is("33 the 512th", x.events(), 3);
    }
}
