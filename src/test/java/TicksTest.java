/** Promises 17 to 21: pass, suspend, resume, raise, openLine. */
public final class TicksTest {
    private static final int NONE = DriverMoor.NONE;

    public static void main(String[] args) {
        passTicks();
        passPutsToSleep();
        heldByChildAndSupplied();
        heldByCall();
        suspendAll();
        suspendRefused();
        suspendAgain();
        resumeInOrder();
        resumeOnlyThose();
        resumeAfterUnbind();
        resumeAsksLines();
        raiseStrikes();
        raiseWakesSavers();
        raiseInOrderOfBinding();
        raiseTouchesNot();
        raiseSuspended();
        raiseErrors();
        openLineAsks();
        openLineWithoutStrikes();
        Due.end("TicksTest");
    }

    /** Even ids lose registers, odd ids save them. */
    private static DriverMoor world() {
        DriverMoor x = new DriverMoor();
        x.driver(0x55555555, 0, 0, false);
        x.driver(0xAAAAAAAA, 0, 0, true);
        return x;
    }

    private static int plain(DriverMoor x, int parent, int id) {
        return x.plug(parent, id, 0, NONE, false, NONE, NONE);
    }

    private static int onLine(DriverMoor x, int parent, int id, int line) {
        return x.plug(parent, id, 0, line, true, NONE, NONE);
    }

    private static void passTicks() {
        DriverMoor x = world();
        Due.is("17 the tick", x.pass(1), 1);
        Due.is("17 the tick", x.pass(50), 51);
        Due.is("17 the tick", x.pass(2), 53);
        Due.badArgument("17 0 ticks", () -> x.pass(0));
        Due.badArgument("17 51 ticks", () -> x.pass(51));
        x.suspend();
        Due.badArgument("17 51 ticks, suspended", () -> x.pass(51));
        Due.badState("17 suspended", () -> x.pass(1));
        x.resume();
        Due.is("17 none has passed", x.pass(1), 54);
    }

    private static void passPutsToSleep() {
        DriverMoor x = world();
        plain(x, NONE, 0);
        plain(x, NONE, 0);
        x.pass(2);
        plain(x, NONE, 0);
        x.pass(2);
        Due.is("17 touched 4 ticks ago", x.isOn(0), true);
        x.pass(1);
        Due.is("17 touched 5 ticks ago", x.isOn(0) || x.isOn(1), false);
        Due.is("17 touched 3 ticks ago", x.isOn(2), true);
        x.pass(2);
        Due.is("17 the last first", Events.from(x, 3), "slept 1, slept 0, slept 2");
        x.pass(50);
        Due.is("17 they sleep on", x.events(), 6);
    }

    private static void heldByChildAndSupplied() {
        DriverMoor x = world();
        plain(x, NONE, 0);
        plain(x, NONE, 0);
        plain(x, NONE, 0);
        plain(x, 0, 0);
        x.plug(NONE, 0, 0, NONE, false, 1, 2);
        x.pass(9);
        Due.is("17 held at tick 5 last", x.isOn(0) && x.isOn(1) && x.isOn(2), true);
        Due.is("17 not held", x.isOn(3) || x.isOn(4), false);
        x.pass(1);
        Due.is("17 the last first", Events.from(x, 5), "slept 4, slept 3, slept 2, slept 1, slept 0");
    }

    private static void heldByCall() {
        DriverMoor x = world();
        plain(x, NONE, 0);
        plain(x, 0, 0);
        x.open(1);
        x.call(0, 5);
        x.pass(5);
        Due.is("17 it ended", x.callState(0), DriverMoor.FINISHED);
        x.pass(3);
        Due.is("17 held at tick 4 last: the end comes ahead", x.isOn(1), true);
        x.pass(1);
        Due.is("17 tick 9", x.isOn(1), false);
        x.pass(4);
        Due.is("17 its parent was held at tick 9", x.isOn(0), true);
        x.pass(1);
        Due.is("17 tick 14", x.isOn(0), false);
    }

    private static void suspendAll() {
        DriverMoor x = world();
        plain(x, NONE, 0);
        plain(x, NONE, 0);
        x.pass(5);
        plain(x, 0, 0);
        Due.is("18 none refuses", x.suspend(), NONE);
        Due.is("18 the last first, those ON", Events.from(x, 5), "bound 2, slept 2, slept 0");
        Due.is("18 none is ON", x.isOn(0) || x.isOn(1) || x.isOn(2), false);
        Due.badState("18 suspended", x::suspend);
        plain(x, NONE, 0);
        Due.is("18 not bound while it is suspended", x.reason(3), NONE);
        x.unbind(0);
        x.unplug(1);
        Due.is("18 unbound and unplugged all the same", Events.from(x, 8),
                "unbound 2, unbound 0, unbound 1, unplugged 1");
        Due.is("18 what unbound one waits for", x.reason(2), 2);
        Due.is("18 bound ones", x.given(3), 0);
        x.resume();
        Due.is("18 bound behind resume", Events.from(x, 12), "bound 3");
    }

    private static void suspendRefused() {
        DriverMoor x = world();
        plain(x, NONE, 0);
        plain(x, 0, 0);
        plain(x, 1, 1);
        plain(x, 1, 0);
        for (int device = 0; device < 4; device++) {
            x.open(device);
            x.set(device, 10 + device);
        }
        x.pass(2);
        x.call(1, 3);
        Due.is("18 the one with a call refuses", x.suspend(), 1);
        Due.is("18 those asleep are woken, the last one first", Events.from(x, 4),
                "slept 3, slept 2, woken 2, woken 3");
        Due.is("18 those behind it stay ON", x.isOn(0) && x.isOn(1), true);
        Due.is("18 not suspended", x.pass(1), 3);
        x.pass(3);
        Due.is("18 they were touched", x.isOn(3) && x.isOn(2), true);
        x.pass(1);
        Due.is("18 5 ticks ago", x.isOn(3) || x.isOn(2), false);
        Due.is("18 a register is lost", x.get(3), 0);
        Due.is("18 another is saved", x.get(2), 12);
        Due.is("18 that of the one that refused", x.get(1), 11);
        Due.is("18 its call is over", x.callState(0), DriverMoor.FINISHED);
        Due.is("18 none refuses", x.suspend(), NONE);
    }

    private static void suspendAgain() {
        DriverMoor x = world();
        plain(x, NONE, 0);
        plain(x, NONE, 0);
        x.open(0);
        x.call(0, 1);
        x.suspend();
        x.pass(5);
        Due.is("18 all asleep", x.isOn(0) || x.isOn(1), false);
        Due.is("18 none refuses", x.suspend(), NONE);
        Due.is("19 none fell asleep by that", x.resume(), 0);
        Due.is("19 none is woken", x.isOn(0) || x.isOn(1), false);
    }

    private static void resumeInOrder() {
        DriverMoor x = world();
        plain(x, NONE, 0);
        plain(x, NONE, 0);
        x.plug(0, 0, 0, NONE, false, 1, NONE);
        x.unbind(1);
        x.bind(1);
        x.pass(1);
        x.suspend();
        int before = x.events();
        Due.is("19 how many", x.resume(), 3);
        Due.is("19 the one that was bound first first", Events.from(x, before), "woken 0, woken 1, woken 2");
        Due.badState("19 not suspended", x::resume);
        x.pass(4);
        Due.is("19 touched", x.isOn(2), true);
        x.pass(1);
        Due.is("19 5 ticks ago", x.isOn(2), false);
        DriverMoor y = world();
        plain(y, NONE, 0);
        plain(y, NONE, 0);
        y.unbind(0);
        y.bind(0);
        y.suspend();
        y.resume();
        Due.is("19 by binding, not by number", Events.from(y, 4), "slept 0, slept 1, woken 1, woken 0");
    }

    private static void resumeOnlyThose() {
        DriverMoor x = world();
        plain(x, NONE, 0);
        plain(x, NONE, 0);
        x.pass(5);
        x.open(0);
        x.get(0);
        x.suspend();
        Due.is("19 one", x.resume(), 1);
        Due.is("19 what slept ahead sleeps on", x.isOn(1), false);
        Due.is("19 what was ON is ON", x.isOn(0), true);
        x.suspend();
        plain(x, 1, 0);
        Due.is("19 what binding wakes comes behind", x.resume(), 1);
        Due.is("19 woken for a child", x.isOn(1) && x.isOn(2), true);
    }

    private static void resumeAfterUnbind() {
        DriverMoor x = world();
        plain(x, NONE, 0);
        plain(x, NONE, 0);
        plain(x, NONE, 0);
        x.suspend();
        x.unbind(1);
        x.unplug(2);
        x.bind(1);
        int before = x.events();
        Due.is("19 bound still", x.resume(), 1);
        Due.is("19 woken, then bound", Events.from(x, before), "woken 0, bound 1");
        x.pass(5);
        x.suspend();
        Due.is("19 each suspension by itself", x.resume(), 0);
    }

    private static void resumeAsksLines() {
        DriverMoor x = world();
        onLine(x, NONE, 1, 5);
        onLine(x, NONE, 1, 2);
        onLine(x, NONE, 0, 5);
        onLine(x, NONE, 1, 7);
        onLine(x, NONE, 0, 6);
        x.pass(5);
        for (int i = 0; i < 3; i++) {
            x.raise(4);
        }
        Due.is("19 line 6 is shut", x.strikes(6), 3);
        x.raise(2);
        Due.is("19 a strike", x.strikes(5), 1);
        x.get(x.open(3));
        x.suspend();
        for (int device = 0; device < 4; device++) {
            Due.is("20 not asked while the world is suspended", x.raise(device), 0);
        }
        int before = x.events();
        Due.is("19 those that lines wake are not counted", x.resume(), 1);
        Due.is("19 lines by rising numbers", Events.from(x, before), "woken 3, woken 1, woken 0");
        Due.is("19 handled", x.isPending(0) || x.isPending(1) || x.isPending(3), false);
        Due.is("19 asleep, and its driver saves not", x.isPending(2), true);
        Due.is("19 strikes stay", x.strikes(5), 1);
        Due.is("19 a shut line is not asked", x.isPending(4), true);
    }

    private static void raiseStrikes() {
        DriverMoor x = world();
        onLine(x, NONE, 0, 0);
        onLine(x, NONE, 0, 0);
        Due.is("20 handled", x.raise(0), 1);
        Due.is("20 pending no more", x.isPending(0), false);
        x.pass(5);
        Due.is("20 asleep", x.raise(0), 0);
        Due.is("20 a strike", x.strikes(0), 1);
        Due.is("20 pending", x.isPending(0), true);
        Due.is("20 again", x.raise(0), 0);
        Due.is("20 another strike", x.strikes(0), 2);
        x.get(x.open(1));
        Due.is("20 handled by one of two", x.raise(1), 1);
        Due.is("20 no strikes", x.strikes(0), 0);
        x.raise(0);
        x.raise(0);
        int before = x.events();
        x.raise(0);
        Due.is("20 shut", Events.from(x, before), "shut 0");
        Due.is("20 three strikes", x.strikes(0), 3);
        Due.is("20 a shut line is not asked", x.raise(1), 0);
        Due.is("20 but the device is pending", x.isPending(1), true);
        Due.is("20 no more strikes, no more events", x.strikes(0) * 100 + x.events(), 301 + before);
    }

    private static void raiseWakesSavers() {
        DriverMoor x = world();
        plain(x, NONE, 0);
        plain(x, NONE, 0);
        x.plug(0, 1, 0, 3, true, 1, NONE);
        x.pass(10);
        x.open(2);
        int before = x.events();
        Due.is("20 a driver that saves", x.raise(2), 1);
        Due.is("20 woken, its needs first", Events.from(x, before), "woken 0, woken 1, woken 2");
        x.pass(4);
        Due.is("20 touched, as it was woken", x.isOn(2), true);
        x.pass(1);
        Due.is("20 5 ticks ago", x.isOn(2), false);
    }

    private static void raiseInOrderOfBinding() {
        DriverMoor x = world();
        onLine(x, NONE, 1, 4);
        onLine(x, NONE, 1, 4);
        onLine(x, NONE, 0, 4);
        onLine(x, 2, 1, 4);
        x.unbind(0);
        x.bind(0);
        x.pass(10);
        x.suspend();
        for (int device = 0; device < 3; device++) {
            x.raise(device);
        }
        x.resume();
        Due.is("20 only those that can", x.isPending(0) || x.isPending(1), false);
        Due.is("20 this one not", x.isPending(2), true);
        x.pass(5);
        int before = x.events();
        Due.is("20 it wakes its parent, whose turn is over", x.raise(3), 1);
        Due.is("20 in that order", Events.from(x, before), "woken 2, woken 3");
        Due.is("20 pending still", x.isPending(2), true);
        Due.is("20 all of the line", x.raise(0), 2);
        DriverMoor y = world();
        onLine(y, NONE, 1, 4);
        onLine(y, NONE, 1, 4);
        y.unbind(0);
        y.bind(0);
        y.pass(5);
        y.suspend();
        y.raise(0);
        y.raise(1);
        y.resume();
        Due.is("20 the order in which they were bound", Events.from(y, 6), "woken 1, woken 0");
    }

    private static void raiseTouchesNot() {
        DriverMoor x = world();
        onLine(x, NONE, 1, 0);
        x.pass(4);
        x.raise(0);
        x.pass(1);
        Due.is("20 who is ON and handles is not touched", x.isOn(0), false);
    }

    private static void raiseSuspended() {
        DriverMoor x = world();
        onLine(x, NONE, 1, 0);
        x.suspend();
        Due.is("20 not asked", x.raise(0), 0);
        Due.is("20 no strike", x.strikes(0), 0);
        Due.is("20 pending", x.isPending(0), true);
        Due.is("20 asleep", x.isOn(0), false);
        x.unbind(0);
        Due.is("20 unbound", x.isPending(0), false);
        x.raise(0);
        x.bind(0);
        Due.is("20 pending, unbound", x.isPending(0), true);
        x.resume();
        Due.is("20 bound", x.isPending(0), false);
        Due.is("20 none handled that", x.strikes(0), 0);
    }

    private static void raiseErrors() {
        DriverMoor x = world();
        onLine(x, NONE, 0, 7);
        plain(x, NONE, 0);
        Due.badState("20 no line", () -> x.raise(1));
        Due.noDevice("20 no such device", () -> x.raise(2));
        Due.noDevice("20 no such device", () -> x.raise(-1));
        x.unbind(0);
        Due.is("20 there, though not bound", x.raise(0), 0);
        Due.is("20 a strike", x.strikes(7), 1);
        x.unplug(0);
        Due.badState("20 there no more", () -> x.raise(0));
        Due.is("20 strikes stay", x.strikes(7), 1);
    }

    private static void openLineAsks() {
        DriverMoor x = world();
        onLine(x, NONE, 0, 7);
        onLine(x, NONE, 0, 7);
        x.pass(5);
        for (int i = 0; i < 3; i++) {
            x.raise(0);
        }
        x.raise(1);
        x.get(x.open(0));
        x.get(x.open(1));
        Due.is("21 who is ON handles", x.openLine(7), 2);
        Due.is("21 no strikes", x.strikes(7), 0);
        Due.is("21 pending no more", x.isPending(0) || x.isPending(1), false);
        Due.is("21 none", x.openLine(7), 0);
        Due.is("21 a line of no one", x.openLine(0), 0);
        Due.noDevice("21 line 8", () -> x.openLine(8));
        Due.noDevice("21 line -1", () -> x.openLine(-1));
        for (int i = 0; i < 3; i++) {
            x.pass(5);
            x.raise(0);
        }
        x.suspend();
        Due.is("21 not asked while the world is suspended", x.openLine(7), 0);
        Due.is("21 but opened", x.strikes(7), 0);
    }

    private static void openLineWithoutStrikes() {
        DriverMoor x = world();
        onLine(x, NONE, 0, 1);
        onLine(x, NONE, 0, 2);
        x.pass(5);
        x.raise(0);
        x.raise(0);
        x.raise(1);
        Due.is("21 none handles", x.openLine(1), 0);
        Due.is("21 no strike for that", x.strikes(1), 0);
        Due.is("21 pending still", x.isPending(0), true);
        Due.is("21 other lines stay", x.strikes(2), 1);
    }
}
