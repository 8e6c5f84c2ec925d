/** Promises 9 to 16: open, close, call, set, get, map, unmap, access. */
public final class HandlesTest {
    private static final int NONE = DriverMoor.NONE;

    public static void main(String[] args) {
        openNumbers();
        openAsleep();
        closeEndsCalls();
        closeDead();
        callGoesOn();
        callWakes();
        callLimits();
        setAndLose();
        setAndSave();
        readingTouches();
        mapLowest();
        mapAsleep();
        unmapOwn();
        accessFaults();
        deadHandles();
        suspendedHandles();
        Due.end("HandlesTest");
    }

    /** Devices 0 and 1 right under the ROOT; the driver of 1 saves. */
    private static DriverMoor two() {
        DriverMoor x = new DriverMoor();
        x.driver(1, 0, 0, false);
        x.driver(2, 0, 0, true);
        x.plug(NONE, 0, 0, NONE, false, NONE, NONE);
        x.plug(NONE, 1, 0, NONE, false, NONE, NONE);
        return x;
    }

    private static void openNumbers() {
        DriverMoor x = two();
        for (int i = 0; i < 40; i++) {
            Due.is("9 numbers", x.open(i % 2), i);
        }
        Due.badState("9 the 41st", () -> x.open(0));
        x.close(39);
        Due.badState("9 40 ever", () -> x.open(0));
        Due.is("9 opened on each", x.handles(0) * 100 + x.handles(1), 2019);
        Due.noDevice("9 no such device", () -> x.open(2));
        Due.noDevice("9 no such device", () -> x.open(NONE));
    }

    private static void openAsleep() {
        DriverMoor x = two();
        x.pass(5);
        x.open(0);
        Due.is("9 is not woken by that", x.isOn(0), false);
        x.unbind(1);
        Due.badState("9 not bound", () -> x.open(1));
        x.unplug(1);
        Due.badState("9 there no more", () -> x.open(1));
        x.suspend();
        Due.badState("9 suspended", () -> x.open(0));
    }

    private static void closeEndsCalls() {
        DriverMoor x = two();
        x.open(0);
        x.open(0);
        x.call(0, 1);
        x.call(0, 2);
        x.call(1, 2);
        x.map(0, 5);
        x.pass(1);
        Due.is("10 not dead", x.close(0), false);
        Due.is("10 its call that was over", x.callState(0), DriverMoor.FINISHED);
        Due.is("10 its call that went on", x.callState(1), DriverMoor.ABORTED);
        Due.is("10 a call of another handle", x.callState(2), DriverMoor.GOING);
        Due.is("10 maps are the device's", x.access(0, 0), 5);
        DriverMoor y = two();
        y.open(0);
        y.call(0, 9);
        y.close(0);
        Due.is("10 the first call of all", y.callState(0), DriverMoor.ABORTED);
        Due.badState("10 closed", () -> x.close(0));
        Due.badState("10 a closed one calls not", () -> x.call(0, 1));
        Due.badState("10 nor sets", () -> x.set(0, 1));
        Due.badState("10 nor reads", () -> x.get(0));
        Due.badState("10 nor maps", () -> x.map(0, 1));
        Due.badState("10 nor unmaps", () -> x.unmap(0, 0));
        Due.noDevice("10 no such handle", () -> x.close(2));
        Due.noDevice("10 no such handle", () -> x.close(-1));
    }

    private static void closeDead() {
        DriverMoor x = two();
        x.open(0);
        x.open(0);
        x.open(1);
        x.suspend();
        Due.is("10 while the world is suspended", x.close(2), false);
        x.unbind(0);
        x.bind(0);
        x.resume();
        x.open(0);
        Due.is("10 dead, also if bound again", x.close(0), true);
        Due.is("10 a new one is not", x.close(3), false);
        x.unplug(0);
        Due.is("10 dead, there no more", x.close(1), true);
        Due.badState("10 once", () -> x.close(1));
    }

    private static void callGoesOn() {
        DriverMoor x = two();
        x.open(0);
        Due.is("11 numbers", x.call(0, 1), 0);
        Due.is("11 numbers", x.call(0, 20), 1);
        Due.is("11 goes on", x.callState(0), DriverMoor.GOING);
        x.pass(1);
        Due.is("11 ends in the tick with which it is over", x.callState(0), DriverMoor.FINISHED);
        x.pass(18);
        Due.is("11 goes on", x.callState(1), DriverMoor.GOING);
        x.pass(1);
        Due.is("11 after 20 ticks", x.callState(1), DriverMoor.FINISHED);
        x.pass(3);
        Due.is("11 held last in the tick ahead of its end", x.isOn(0), true);
        x.pass(1);
        Due.is("11 that is 5 ticks ago", x.isOn(0), false);
        Due.badArgument("11 0 ticks", () -> x.call(0, 0));
        Due.badArgument("11 21 ticks", () -> x.call(0, 21));
        Due.noDevice("11 no such handle", () -> x.call(1, 1));
    }

    private static void callWakes() {
        DriverMoor x = two();
        x.plug(0, 0, 0, NONE, false, NONE, 1);
        x.open(2);
        x.pass(20);
        int before = x.events();
        x.call(0, 1);
        Due.is("11 wakes its device, its needs first", Events.from(x, before), "woken 0, woken 1, woken 2");
        x.pass(1);
        x.pass(3);
        Due.is("11 touched when it was called", x.isOn(2), true);
        x.call(0, 1);
        Due.is("11 nothing to wake", x.events(), before + 3);
        x.pass(4);
        Due.is("11 touched again, though it was ON", x.isOn(2), true);
        x.pass(1);
        Due.is("11 asleep", Events.from(x, before + 3), "slept 2");
    }

    private static void callLimits() {
        DriverMoor x = two();
        x.open(0);
        x.open(1);
        for (int i = 0; i < 100; i++) {
            Due.is("11 numbers", x.call(i % 2, 1 + i % 20), i);
        }
        x.pass(20);
        Due.badState("11 100 ever", () -> x.call(0, 1));
        Due.is("11 the last", x.callState(99), DriverMoor.FINISHED);
        Due.noDevice("11 no more calls", () -> x.callState(100));
    }

    private static void setAndLose() {
        DriverMoor x = two();
        x.open(0);
        Due.is("12 0 at first", x.set(0, 99), 0);
        Due.is("12 what it was", x.set(0, 0), 99);
        Due.is("12 what it was", x.set(0, 42), 0);
        Due.is("13 what it is", x.get(0), 42);
        x.pass(5);
        Due.is("12 asleep", x.isOn(0), false);
        Due.is("12 lost, woken", x.set(0, 7), 0);
        Due.is("12 woken", x.isOn(0), true);
        Due.is("13 set", x.get(0), 7);
        x.pass(5);
        Due.is("13 lost", x.get(0), 0);
        Due.badArgument("12 -1", () -> x.set(0, -1));
        Due.badArgument("12 100", () -> x.set(0, 100));
        Due.noDevice("12 no such handle", () -> x.set(1, 0));
        Due.noDevice("13 no such handle", () -> x.get(1));
        x.set(0, 5);
        x.unbind(0);
        x.bind(0);
        x.open(0);
        Due.is("13 0 when it is bound", x.get(1), 0);
    }

    private static void setAndSave() {
        DriverMoor x = two();
        x.open(1);
        x.open(1);
        x.set(0, 42);
        x.pass(5);
        Due.is("12 asleep", x.isOn(1), false);
        Due.is("12 saved; by any handle", x.set(1, 43), 42);
        x.suspend();
        x.resume();
        Due.is("13 saved while the world is suspended", x.get(0), 43);
        x.pass(5);
        x.unbind(1);
        x.bind(1);
        x.open(1);
        Due.is("13 0 when it is bound, whatever was saved", x.get(2), 0);
        x.pass(5);
        Due.is("13 nor does that come back", x.get(2), 0);
    }

    private static void readingTouches() {
        DriverMoor x = two();
        x.open(0);
        x.open(1);
        x.pass(4);
        x.get(0);
        x.set(1, 1);
        x.pass(4);
        Due.is("12 13 touched", x.isOn(0) && x.isOn(1), true);
        x.map(0, 1);
        x.access(0, 0);
        x.open(0);
        x.pass(1);
        Due.is("13 touched 5 ticks ago; to map touches not", x.isOn(0), false);
        Due.is("12 touched 5 ticks ago", x.isOn(1), false);
        int before = x.events();
        x.get(1);
        Due.is("13 woken", Events.from(x, before), "woken 1");
    }

    private static void mapLowest() {
        DriverMoor x = two();
        x.open(0);
        x.open(1);
        for (int i = 0; i < 16; i++) {
            Due.is("14 the lowest that is free", x.map(i % 2, i * 2), i);
        }
        Due.badState("14 no slot is free", () -> x.map(0, 1));
        x.unmap(1, 9);
        x.unmap(0, 4);
        Due.is("14 the lowest that is free", x.map(1, 31), 4);
        Due.is("14 for its device", x.access(1, 4), 31);
        Due.is("14 the same page again", x.map(1, 31), 9);
        Due.badArgument("14 page -1", () -> x.map(0, -1));
        Due.badArgument("14 page 32", () -> x.map(0, 32));
        Due.noDevice("14 no such handle", () -> x.map(2, 0));
    }

    private static void mapAsleep() {
        DriverMoor x = two();
        x.open(0);
        x.pass(5);
        Due.is("14 page 0", x.map(0, 0), 0);
        Due.is("14 does not wake", x.isOn(0), false);
        Due.is("15 nor that", x.unmap(0, 0), 0);
        Due.is("15 does not wake", x.isOn(0), false);
    }

    private static void unmapOwn() {
        DriverMoor x = two();
        x.open(0);
        x.open(1);
        x.open(0);
        x.map(0, 20);
        x.map(1, 21);
        Due.badState("15 not for its device", () -> x.unmap(0, 1));
        Due.badState("15 not mapped", () -> x.unmap(0, 2));
        Due.noDevice("15 slot 16", () -> x.unmap(0, 16));
        Due.noDevice("15 slot -1", () -> x.unmap(0, -1));
        Due.noDevice("15 no such handle", () -> x.unmap(3, 0));
        Due.is("15 the page, by another handle", x.unmap(2, 0), 20);
        Due.badState("15 once", () -> x.unmap(0, 0));
        x.suspend();
        Due.is("15 while the world is suspended", x.unmap(1, 1), 21);
        Due.is("15 none is mapped", x.given(2), 0);
        x.resume();
        x.map(0, 22);
        x.close(0);
        Due.badState("15 closed", () -> x.unmap(0, 0));
        Due.is("15 mapped still", x.unmap(2, 0), 22);
    }

    private static void accessFaults() {
        DriverMoor x = two();
        x.open(0);
        x.map(0, 31);
        Due.is("16 the page", x.access(0, 0), 31);
        Due.is("16 no fault", x.faults(), 0);
        Due.is("16 another's", x.access(1, 0), NONE);
        Due.is("16 not mapped", x.access(0, 15), NONE);
        Due.is("16 two faults", x.faults(), 2);
        x.pass(5);
        Due.is("16 asleep", x.access(0, 0), NONE);
        Due.is("16 is not woken", x.isOn(0), false);
        x.get(0);
        Due.is("16 mapped still", x.access(0, 0), 31);
        x.suspend();
        Due.is("16 suspended", x.access(0, 0), NONE);
        x.resume();
        x.unbind(0);
        Due.is("16 not bound", x.access(0, 0), NONE);
        Due.is("16 five faults", x.faults(), 5);
        Due.noDevice("16 slot 16", () -> x.access(0, 16));
        Due.noDevice("16 slot -1", () -> x.access(0, -1));
        Due.noDevice("16 no such device", () -> x.access(2, 0));
        x.unplug(0);
        Due.noDevice("16 slot 16, there no more", () -> x.access(0, 16));
        Due.badState("16 there no more", () -> x.access(0, 0));
        Due.is("16 no fault by that", x.faults(), 5);
    }

    private static void deadHandles() {
        DriverMoor x = two();
        x.open(0);
        x.map(0, 1);
        x.unbind(0);
        Due.badState("11 dead", () -> x.call(0, 1));
        x.bind(0);
        Due.badState("11 dead, though bound again", () -> x.call(0, 1));
        Due.badState("12 dead", () -> x.set(0, 1));
        Due.badState("13 dead", () -> x.get(0));
        Due.badState("14 dead", () -> x.map(0, 1));
        x.open(0);
        x.map(1, 2);
        Due.badState("15 dead", () -> x.unmap(0, 0));
        Due.is("15 alive", x.unmap(1, 0), 2);
    }

    private static void suspendedHandles() {
        DriverMoor x = two();
        x.open(0);
        x.map(0, 3);
        x.suspend();
        Due.badState("9 suspended", () -> x.open(0));
        Due.badState("11 suspended", () -> x.call(0, 1));
        Due.badState("12 suspended", () -> x.set(0, 1));
        Due.badState("13 suspended", () -> x.get(0));
        Due.badState("14 suspended", () -> x.map(0, 1));
        x.resume();
        Due.is("14 mapped still", x.access(0, 0), 3);
    }
}
