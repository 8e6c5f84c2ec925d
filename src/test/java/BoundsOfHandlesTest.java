/**
 * The sentences of "Handles, calls, registers" and "Maps", and of promises 9 to 16, that name a bound:
 * a test for each.
 */
public final class BoundsOfHandlesTest {
    private static final int NONE = DriverMoor.NONE;

    public static void main(String[] args) {
        atMost40Handles();
        openedOnABoundDevice();
        openThrows();
        openUntilClosed();
        closeThrows();
        closingEndsItsCallsAlone();
        dead();
        deadThoughTheWorldIsSuspended();
        deadOfAllThatAreUnbound();
        atMost100Calls();
        callTicks();
        callEndsInItsTick();
        callEndsWithinAPass();
        callWakes();
        callThrows();
        values();
        setThrows();
        setTellsWhatItWasThen();
        getThrows();
        getTellsWhatItIsThen();
        registerOfTheDevice();
        refusedUseDoesNotWake();
        pages();
        sixteenSlots();
        lowestFreeSlot();
        mapThrows();
        mapNeitherWakesNorTouches();
        unmapThrows();
        unmapTellsThePage();
        accessThrows();
        accessPagesAndFaults();
        slotGivenToAnother();
        Due.end("BoundsOfHandlesTest");
    }

    /** "Handles are numbered from 0, at most 40 ever". */
    private static void atMost40Handles() {
        DriverMoor x = Worlds.with(1);
        for (int i = 0; i < 40; i++) {
            int next = i;
            Due.noDevice("10 not yet", () -> x.close(next));
            Due.is("9 from 0 on", x.open(0), i);
            x.close(i);
        }
        Due.badState("9 the 41st, though all are closed", () -> x.open(0));
        Due.noDevice("10 was not opened", () -> x.close(40));
        Due.is("29 none is open", x.handles(0), 0);
        DriverMoor y = Worlds.with(1);
        for (int i = 0; i < 40; i++) {
            y.open(0);
        }
        Due.badState("9 the 41st", () -> y.open(0));
        Due.is("29 40 are open", y.handles(0), 40);
        Due.is("13 the last one is of use", y.get(39), 0);
    }

    /** "one is opened on a bound device". */
    private static void openedOnABoundDevice() {
        DriverMoor x = Worlds.with(2);
        int strange = Worlds.ofId(x, Worlds.UNKNOWN);
        Due.badState("9 never bound", () -> x.open(strange));
        x.unbind(0);
        Due.badState("9 unbound", () -> x.open(0));
        x.bind(0);
        Due.is("9 bound again", x.open(0), 0);
        x.pass(5);
        Due.is("9 asleep is bound", x.open(1), 1);
        Due.is("9 and sleeps on", x.isOn(1), false);
        x.unplug(0);
        Due.badState("9 there no more", () -> x.open(0));
    }

    /** Promise 9: "if there is no such device"; "... the world is suspended". */
    private static void openThrows() {
        DriverMoor x = Worlds.with(1);
        for (int wrong : new int[] {-1, -2, 1, 24}) {
            Due.noDevice("9 " + wrong, () -> x.open(wrong));
        }
        for (int wrong : Worlds.FAR) {
            Due.noDevice("9 " + wrong, () -> x.open(wrong));
        }
        x.suspend();
        Due.badState("9 suspended", () -> x.open(0));
        Due.noDevice("9 no such device, suspended", () -> x.open(1));
        x.resume();
        Due.is("9 no number was used", x.open(0), 0);
    }

    /** "and stays open until it is closed". */
    private static void openUntilClosed() {
        DriverMoor x = Worlds.with(1);
        x.open(0);
        x.pass(50);
        x.suspend();
        x.resume();
        x.reset(0);
        Due.is("29 sleep and resets do not close it", x.handles(0), 1);
        x.unbind(0);
        x.bind(0);
        x.unplug(0);
        Due.is("29 nor being dead", x.handles(0), 1);
        x.close(0);
        Due.is("29 closed", x.handles(0), 0);
    }

    /** Promise 10: "if there is no such handle"; "if it is closed". */
    private static void closeThrows() {
        DriverMoor x = Worlds.with(1);
        x.open(0);
        for (int wrong : new int[] {-1, -2, 1, 39, 40}) {
            Due.noDevice("10 " + wrong, () -> x.close(wrong));
        }
        for (int wrong : Worlds.FAR) {
            Due.noDevice("10 " + wrong, () -> x.close(wrong));
        }
        Due.is("10 alive", x.close(0), false);
        Due.badState("10 once", () -> x.close(0));
        x.open(0);
        x.unbind(0);
        Due.is("10 dead", x.close(1), true);
        Due.badState("10 a dead one once as well", () -> x.close(1));
        x.bind(0);
        x.open(0);
        x.suspend();
        Due.is("10 while the world is suspended", x.close(2), false);
    }

    /** "when its handle is closed it ends, ABORTED, if it goes on". */
    private static void closingEndsItsCallsAlone() {
        DriverMoor x = Worlds.with(1);
        x.open(0);
        x.open(0);
        x.call(0, 1);
        x.pass(1);
        x.call(1, 9);
        x.call(0, 9);
        x.call(0, 9);
        x.close(0);
        Due.is("30 what was over", x.callState(0), DriverMoor.FINISHED);
        Due.is("30 that of another handle", x.callState(1), DriverMoor.GOING);
        Due.is("30 both of its own", x.callState(2) + x.callState(3), 2 * DriverMoor.ABORTED);
        x.pass(9);
        Due.is("30 that of another handle", x.callState(1), DriverMoor.FINISHED);
        Due.is("30 ABORTED it stays", x.callState(2), DriverMoor.ABORTED);
        DriverMoor y = Worlds.with(1);
        y.call(y.open(0), 20);
        y.pass(2);
        y.close(0);
        y.pass(3);
        Due.is("17 held up to tick 2, when it ended", y.isOn(0), true);
        y.pass(2);
        Due.is("17 that is 5 ticks ago", y.isOn(0), false);
    }

    /** "It is dead, when its device has been unbound since it was opened, also if that is bound again." */
    private static void dead() {
        DriverMoor x = Worlds.with(2);
        x.open(0);
        x.open(1);
        x.unbind(0);
        Due.badState("11 dead, not bound", () -> x.call(0, 1));
        x.bind(0);
        Due.badState("11 dead, bound again", () -> x.call(0, 1));
        Due.badState("12 dead", () -> x.set(0, 1));
        Due.badState("13 dead", () -> x.get(0));
        Due.badState("14 dead", () -> x.map(0, 1));
        Due.badState("15 dead", () -> x.unmap(0, 0));
        Due.is("13 that of another is not", x.get(1), 0);
        Due.is("9 a new one", x.open(0), 2);
        Due.is("11 is not dead", x.call(2, 1), 0);
        Due.is("10 the old one is", x.close(0), true);
        Due.is("10 the new one is not", x.close(2), false);
        Due.is("10 nor that of another", x.close(1), false);
    }

    private static void deadThoughTheWorldIsSuspended() {
        DriverMoor x = Worlds.with(1);
        x.open(0);
        x.suspend();
        x.unbind(0);
        x.bind(0);
        x.resume();
        Due.is("26 bound again", x.isOn(0), true);
        Due.badState("13 dead", () -> x.get(0));
        Due.is("10 dead", x.close(0), true);
    }

    private static void deadOfAllThatAreUnbound() {
        DriverMoor x = Worlds.with(1);
        Worlds.under(x, 0);
        Worlds.needing(x, NONE, NONE, 1);
        for (int device = 0; device < 3; device++) {
            x.open(device);
        }
        x.unbind(1);
        x.bind(1);
        Due.is("10 the device above was not unbound", x.close(0), false);
        Due.is("10 unbound by hand", x.close(1), true);
        Due.is("10 unbound with it, and bound again", x.close(2), true);
    }

    /** "Calls are numbered from 0, at most 100 ever." */
    private static void atMost100Calls() {
        DriverMoor x = Worlds.with(1);
        x.open(0);
        for (int i = 0; i < 100; i++) {
            int next = i;
            Due.noDevice("30 not yet", () -> x.callState(next));
            Due.is("11 from 0 on", x.call(0, 1), i);
            if (i % 10 == 9) {
                x.pass(1);
            }
        }
        Due.badState("11 the 101st, though all are over", () -> x.call(0, 1));
        Due.noDevice("30 was not made", () -> x.callState(100));
        x.pass(5);
        Due.badState("11 asleep", () -> x.call(0, 1));
        Due.is("11 what throws does not wake", x.isOn(0), false);
    }

    /** "goes on for some ticks, 1 to 20". */
    private static void callTicks() {
        DriverMoor x = Worlds.with(1);
        x.open(0);
        for (int wrong : new int[] {-1, 0, 21}) {
            Due.badArgument("11 ticks " + wrong, () -> x.call(0, wrong));
        }
        for (int wrong : Worlds.FAR) {
            Due.badArgument("11 ticks " + wrong, () -> x.call(0, wrong));
        }
        for (int ticks = 1; ticks <= 20; ticks++) {
            Due.is("11 ticks " + ticks, x.call(0, ticks), ticks - 1);
        }
    }

    /** "it ends, FINISHED, in the tick with which these are over". */
    private static void callEndsInItsTick() {
        DriverMoor x = Worlds.with(1);
        x.open(0);
        x.pass(2);
        for (int ticks = 1; ticks <= 20; ticks++) {
            x.call(0, ticks);
        }
        for (int passed = 0; passed <= 20; passed++) {
            for (int call = 0; call < 20; call++) {
                Due.is("30 after " + passed + " of " + (call + 1), x.callState(call),
                        passed > call ? DriverMoor.FINISHED : DriverMoor.GOING);
            }
            x.pass(1);
        }
    }

    private static void callEndsWithinAPass() {
        DriverMoor x = Worlds.with(1);
        x.open(0);
        x.call(0, 20);
        x.call(0, 3);
        x.pass(50);
        Due.is("30 over", x.callState(0) + x.callState(1), 2 * DriverMoor.FINISHED);
        Due.is("26 asleep since", x.isOn(0), false);
        Due.is("33 bound, asleep", x.events(), 2);
    }

    /** "A call wakes its device". */
    private static void callWakes() {
        DriverMoor x = Worlds.with(2);
        x.open(0);
        x.pass(5);
        int before = x.events();
        x.call(0, 1);
        Due.is("34 woken", Events.from(x, before), "woken 0");
        x.call(0, 1);
        Due.is("34 once", x.events(), before + 1);
        Due.is("26 another sleeps on", x.isOn(1), false);
    }

    /** Promise 11: "if there is no such handle"; "if it is closed or dead, the world is suspended". */
    private static void callThrows() {
        DriverMoor x = Worlds.with(1);
        x.open(0);
        x.open(0);
        for (int wrong : new int[] {-1, -2, 2, 39, 40}) {
            Due.noDevice("11 handle " + wrong, () -> x.call(wrong, 1));
            Due.noDevice("11 ahead of wrong ticks", () -> x.call(wrong, 0));
        }
        for (int wrong : Worlds.FAR) {
            Due.noDevice("11 handle " + wrong, () -> x.call(wrong, 1));
        }
        x.close(1);
        Due.badState("11 closed", () -> x.call(1, 1));
        Due.badArgument("11 wrong ticks ahead of closed", () -> x.call(1, 21));
        x.suspend();
        Due.badState("11 suspended", () -> x.call(0, 20));
        Due.badArgument("11 wrong ticks ahead of suspended", () -> x.call(0, 0));
        x.resume();
        Due.is("11 no number was used", x.call(0, 20), 0);
    }

    /** "value: 0 to 99". */
    private static void values() {
        DriverMoor x = Worlds.with(1);
        x.open(0);
        for (int wrong : new int[] {-1, 100}) {
            Due.badArgument("12 value " + wrong, () -> x.set(0, wrong));
        }
        for (int wrong : Worlds.FAR) {
            Due.badArgument("12 value " + wrong, () -> x.set(0, wrong));
        }
        Due.is("12 nothing was set by that", x.set(0, 99), 0);
        Due.is("12 the greatest", x.set(0, 0), 99);
        Due.is("13 the least", x.get(0), 0);
    }

    /** Promise 12: "if there is no such handle"; "if it is closed or dead, or the world is suspended". */
    private static void setThrows() {
        DriverMoor x = Worlds.with(1);
        x.open(0);
        x.open(0);
        for (int wrong : new int[] {-1, -2, 2, 39, 40}) {
            Due.noDevice("12 handle " + wrong, () -> x.set(wrong, 1));
            Due.noDevice("12 ahead of a wrong value", () -> x.set(wrong, 100));
        }
        for (int wrong : Worlds.FAR) {
            Due.noDevice("12 handle " + wrong, () -> x.set(wrong, 1));
        }
        x.close(1);
        Due.badState("12 closed", () -> x.set(1, 1));
        Due.badArgument("12 a wrong value ahead of closed", () -> x.set(1, -1));
        x.suspend();
        Due.badState("12 suspended", () -> x.set(0, 1));
        Due.badArgument("12 a wrong value ahead of suspended", () -> x.set(0, 100));
        x.resume();
        Due.is("12 nothing was set by that", x.set(0, 1), 0);
    }

    /** "Returns what it was then": once its device is woken. */
    private static void setTellsWhatItWasThen() {
        DriverMoor x = Worlds.with(1);
        Worlds.ofId(x, Worlds.SAVES);
        x.open(0);
        x.open(1);
        x.set(0, 5);
        x.set(1, 6);
        x.pass(4);
        Due.is("12 not asleep yet", x.set(0, 7) * 10 + x.set(1, 8), 56);
        x.pass(5);
        Due.is("12 one was lost, one saved", x.set(0, 9) * 10 + x.set(1, 9), 8);
        Due.is("12 both are ON", x.isOn(0) && x.isOn(1), true);
    }

    /** Promise 13: "if there is no such handle"; "if it is closed or dead, or the world is suspended". */
    private static void getThrows() {
        DriverMoor x = Worlds.with(1);
        x.open(0);
        x.open(0);
        for (int wrong : new int[] {-1, -2, 2, 39, 40}) {
            Due.noDevice("13 handle " + wrong, () -> x.get(wrong));
        }
        for (int wrong : Worlds.FAR) {
            Due.noDevice("13 handle " + wrong, () -> x.get(wrong));
        }
        x.close(1);
        Due.badState("13 closed", () -> x.get(1));
        x.suspend();
        Due.badState("13 suspended", () -> x.get(0));
        Due.noDevice("13 no such handle, suspended", () -> x.get(2));
        x.resume();
        Due.is("13 not suspended", x.get(0), 0);
    }

    /** "Its register is 0 then, or, if its driver saves, what it was when it fell asleep." */
    private static void getTellsWhatItIsThen() {
        DriverMoor x = Worlds.with(1);
        Worlds.ofId(x, Worlds.SAVES);
        x.open(0);
        x.open(1);
        for (int round = 1; round <= 3; round++) {
            x.set(0, 30 + round);
            x.set(1, 33 * round);
            x.pass(5);
            Due.is("13 lost", x.get(0), 0);
            Due.is("13 saved", x.get(1), 33 * round);
            x.suspend();
            x.resume();
            Due.is("13 lost by a suspension", x.get(0), 0);
            Due.is("13 saved by a suspension", x.get(1), 33 * round);
        }
    }

    /** "the register of its device": not of the handle, nor of another device. */
    private static void registerOfTheDevice() {
        DriverMoor x = Worlds.with(2);
        x.open(0);
        x.open(0);
        x.open(1);
        x.set(0, 11);
        x.set(2, 22);
        Due.is("13 by another handle", x.get(1), 11);
        x.close(0);
        Due.is("13 though that is closed", x.get(1), 11);
        Due.is("13 of another device", x.get(2), 22);
    }

    /** "A call of a method that throws an exception changes nothing." */
    private static void refusedUseDoesNotWake() {
        DriverMoor x = Worlds.with(1);
        x.open(0);
        x.pass(5);
        Due.badArgument("11 ticks", () -> x.call(0, 0));
        Due.badArgument("12 value", () -> x.set(0, 100));
        Due.badArgument("14 page", () -> x.map(0, 32));
        Due.is("26 asleep still", x.isOn(0), false);
        Due.is("33 no event", x.events(), 2);
        x.get(0);
        x.pass(4);
        Due.badArgument("12 value", () -> x.set(0, 100));
        x.pass(1);
        Due.is("26 nor is it touched", x.isOn(0), false);
    }

    /** "To map a page, 0 to 31". */
    private static void pages() {
        DriverMoor x = Worlds.with(1);
        x.open(0);
        for (int wrong : new int[] {-1, 32}) {
            Due.badArgument("14 page " + wrong, () -> x.map(0, wrong));
        }
        for (int wrong : Worlds.FAR) {
            Due.badArgument("14 page " + wrong, () -> x.map(0, wrong));
        }
        Due.is("14 no slot was taken by that", x.given(2), 0);
        Due.is("14 the least", x.map(0, 0), 0);
        Due.is("14 the greatest", x.map(0, 31), 1);
        Due.is("16 the least", x.access(0, 0), 0);
        Due.is("16 the greatest", x.access(0, 1), 31);
    }

    /** "There are 16 slots of the guard." */
    private static void sixteenSlots() {
        DriverMoor x = Worlds.with(1);
        x.open(0);
        for (int slot = 0; slot < 16; slot++) {
            Due.is("14 slots", x.map(0, 31 - slot), slot);
            Due.is("32 given", x.given(2), slot + 1);
        }
        Due.badState("14 no slot is free", () -> x.map(0, 0));
        Due.badArgument("14 a wrong page ahead of that", () -> x.map(0, 32));
        Due.noDevice("14 no such handle ahead of that", () -> x.map(1, 0));
        for (int slot = 0; slot < 16; slot++) {
            Due.is("16 each has its page", x.access(0, slot), 31 - slot);
        }
        x.reset(0);
        Due.is("14 all are free", x.map(0, 0), 0);
    }

    /** "takes the lowest slot that is free". */
    private static void lowestFreeSlot() {
        DriverMoor x = Worlds.with(1);
        x.open(0);
        for (int slot = 0; slot < 16; slot++) {
            x.map(0, slot);
        }
        x.unmap(0, 15);
        Due.is("14 the last one", x.map(0, 1), 15);
        x.unmap(0, 0);
        Due.is("14 the first one", x.map(0, 1), 0);
        x.unmap(0, 9);
        x.unmap(0, 15);
        x.unmap(0, 2);
        Due.is("14 the lowest", x.map(0, 1), 2);
        Due.is("14 then", x.map(0, 1), 9);
        Due.is("14 then", x.map(0, 1), 15);
        Due.badState("14 no more", () -> x.map(0, 1));
    }

    /** Promise 14: "if there is no such handle"; "if it is closed or dead, the world is suspended". */
    private static void mapThrows() {
        DriverMoor x = Worlds.with(1);
        x.open(0);
        x.open(0);
        for (int wrong : new int[] {-1, -2, 2, 39, 40}) {
            Due.noDevice("14 handle " + wrong, () -> x.map(wrong, 1));
            Due.noDevice("14 ahead of a wrong page", () -> x.map(wrong, 32));
        }
        for (int wrong : Worlds.FAR) {
            Due.noDevice("14 handle " + wrong, () -> x.map(wrong, 1));
        }
        x.close(1);
        Due.badState("14 closed", () -> x.map(1, 1));
        Due.badArgument("14 a wrong page ahead of closed", () -> x.map(1, 32));
        x.suspend();
        Due.badState("14 suspended", () -> x.map(0, 1));
        x.resume();
        Due.is("14 no slot was taken by that", x.map(0, 1), 0);
    }

    private static void mapNeitherWakesNorTouches() {
        DriverMoor x = Worlds.with(1);
        x.open(0);
        x.pass(4);
        x.map(0, 1);
        Due.is("16 it comes to the page", x.access(0, 0), 1);
        x.access(0, 1);
        x.unmap(0, 0);
        x.open(0);
        x.close(1);
        x.pass(1);
        Due.is("17 not touched by maps, pages, faults, handles", x.isOn(0), false);
        x.map(0, 1);
        x.access(0, 0);
        x.unmap(0, 0);
        Due.is("17 nor woken", x.isOn(0), false);
    }

    /** Promise 15: "no such handle or slot"; "closed or dead, or the slot is not mapped for its device". */
    private static void unmapThrows() {
        DriverMoor x = Worlds.with(2);
        x.open(0);
        x.open(1);
        x.open(0);
        x.map(0, 1);
        for (int wrong : new int[] {-1, -2, 3, 39, 40}) {
            Due.noDevice("15 handle " + wrong, () -> x.unmap(wrong, 0));
        }
        for (int wrong : new int[] {-1, -2, 16, 17}) {
            Due.noDevice("15 slot " + wrong, () -> x.unmap(0, wrong));
        }
        for (int wrong : Worlds.FAR) {
            Due.noDevice("15 handle " + wrong, () -> x.unmap(wrong, 0));
            Due.noDevice("15 slot " + wrong, () -> x.unmap(0, wrong));
        }
        Due.badState("15 of another device", () -> x.unmap(1, 0));
        Due.badState("15 of none, the last slot", () -> x.unmap(0, 15));
        x.close(2);
        Due.badState("15 closed", () -> x.unmap(2, 0));
        Due.noDevice("15 no such slot ahead of closed", () -> x.unmap(2, 16));
        x.unbind(1);
        Due.badState("15 dead", () -> x.unmap(1, 0));
        Due.is("15 it was mapped all the time", x.unmap(0, 0), 1);
        Due.badState("15 once", () -> x.unmap(0, 0));
    }

    private static void unmapTellsThePage() {
        DriverMoor x = Worlds.with(1);
        x.open(0);
        x.open(0);
        x.map(0, 31);
        x.map(0, 0);
        Due.is("15 by another handle of its device", x.unmap(1, 0), 31);
        x.suspend();
        Due.is("15 while the world is suspended", x.unmap(0, 1), 0);
        Due.is("32 none is mapped", x.given(2), 0);
    }

    /** Promise 16: "if there is no such device or slot"; "if it is there no more". */
    private static void accessThrows() {
        DriverMoor x = Worlds.with(1);
        for (int wrong : new int[] {-1, -2, 1, 24}) {
            Due.noDevice("16 device " + wrong, () -> x.access(wrong, 0));
        }
        for (int wrong : new int[] {-1, -2, 16, 17}) {
            Due.noDevice("16 slot " + wrong, () -> x.access(0, wrong));
        }
        for (int wrong : Worlds.FAR) {
            Due.noDevice("16 device " + wrong, () -> x.access(wrong, 0));
            Due.noDevice("16 slot " + wrong, () -> x.access(0, wrong));
        }
        x.open(0);
        x.unplug(0);
        Due.badState("16 a husk", () -> x.access(0, 0));
        Due.noDevice("16 no such slot of a husk", () -> x.access(0, 16));
        Due.is("31 what throws is no fault", x.faults(), 0);
    }

    /** "it comes to the page, if it is ON, and the slot is mapped for it; otherwise that is a fault". */
    private static void accessPagesAndFaults() {
        DriverMoor x = Worlds.with(2);
        x.map(x.open(0), 7);
        Due.is("16 the page", x.access(0, 0), 7);
        Due.is("31 no fault", x.faults(), 0);
        Due.is("16 mapped for another", x.access(1, 0), NONE);
        Due.is("16 mapped for none", x.access(0, 15), NONE);
        Due.is("31 two", x.faults(), 2);
        x.close(0);
        Due.is("16 the handle is closed", x.access(0, 0), 7);
        x.pass(5);
        Due.is("16 asleep", x.access(0, 0), NONE);
        x.get(x.open(0));
        Due.is("16 woken", x.access(0, 0), 7);
        x.suspend();
        Due.is("16 suspended", x.access(0, 0), NONE);
        x.resume();
        Due.is("16 resumed", x.access(0, 0), 7);
        x.reset(0);
        Due.is("16 reset", x.access(0, 0), NONE);
        x.unbind(0);
        Due.is("16 not bound", x.access(0, 0), NONE);
        int strange = Worlds.ofId(x, Worlds.UNKNOWN);
        Due.is("16 never bound", x.access(strange, 15), NONE);
        Due.is("31 all of them", x.faults(), 7);
    }

    private static void slotGivenToAnother() {
        DriverMoor x = Worlds.with(2);
        x.map(x.open(0), 7);
        x.unbind(0);
        Due.is("14 free again", x.map(x.open(1), 8), 0);
        x.bind(0);
        Due.is("16 it has it no more", x.access(0, 0), NONE);
        Due.is("16 the other has it", x.access(1, 0), 8);
    }
}
