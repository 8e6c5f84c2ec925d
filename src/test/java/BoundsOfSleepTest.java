/**
 * The sentences of "Sleep", and of promises 17 to 19, that name a bound: a test for each.
 */
public final class BoundsOfSleepTest {
    private static final int NONE = DriverMoor.NONE;

    public static void main(String[] args) {
        passTicks();
        passThrows();
        touchedWhenBound();
        touchedWhenWoken();
        touchedWhenUsed();
        touchedInTicksWhenHeld();
        heldByCallsThatGoOn();
        heldByWhatIsOnAlone();
        heldByEachNeed();
        asleepOnce();
        asleepLastBoundFirst();
        oneTickAsManyTicks();
        wokenNeedsFirst();
        wokenThroughAWholeChain();
        wokenOnceThoughNeededTwice();
        suspendNone();
        suspendAllThatAreOn();
        suspendRefusedByACall();
        suspendRefusedAtTheLastTurn();
        suspendNotRefusedByWhatIsOver();
        suspendThrows();
        refusedIsWokenTheLastFirst();
        refusedLosesAndTouches();
        nothingWhileSuspended();
        whatGoesOnWhileSuspended();
        resumeThrows();
        resumeTheFirstBoundFirst();
        resumeThoseThatFellAsleepByIt();
        resumeThoseThatAreBoundStill();
        resumeCountsNotWhatIsBound();
        resumeTouches();
        resumeAsksLinesByNumbers();
        resumeAsksNoShutLine();
        resumeAsksWithoutStrikes();
        resumeAsksAheadOfBinding();
        resumeCountsNotWhatLinesWake();
        Due.end("BoundsOfSleepTest");
    }

    /** Passes some ticks, and tells that a device is ON up to the last of them, and ASLEEP with that. */
    private static void sleepsAfter(String what, DriverMoor x, int device, int ticks) {
        if (ticks > 1) {
            x.pass(ticks - 1);
        }
        Due.is(what + ", a tick ahead", x.isOn(device), true);
        x.pass(1);
        Due.is(what + ", then", x.isOn(device), false);
    }

    /** "ticks: 1 to 50"; "Returns the tick then." */
    private static void passTicks() {
        DriverMoor x = Worlds.made();
        int tick = 0;
        for (int ticks = 1; ticks <= 50; ticks++) {
            tick += ticks;
            Due.is("17 the tick then", x.pass(ticks), tick);
        }
        for (int wrong : new int[] {-1, 0, 51}) {
            Due.badArgument("17 ticks " + wrong, () -> x.pass(wrong));
        }
        for (int wrong : Worlds.FAR) {
            Due.badArgument("17 ticks " + wrong, () -> x.pass(wrong));
        }
        Due.is("17 none has passed by that", x.pass(1), tick + 1);
    }

    /** "IllegalStateException if the world is suspended". */
    private static void passThrows() {
        DriverMoor x = Worlds.made();
        x.suspend();
        Due.badState("17 suspended", () -> x.pass(1));
        Due.badState("17 suspended", () -> x.pass(50));
        Due.badArgument("17 wrong ticks ahead of suspended", () -> x.pass(0));
        Due.badArgument("17 wrong ticks ahead of suspended", () -> x.pass(51));
        x.resume();
        Due.is("17 none has passed by that", x.pass(1), 1);
    }

    /** "touched last 5 or more ticks ago": 4 are not enough, 5 are. */
    private static void touchedWhenBound() {
        DriverMoor x = Worlds.with(1);
        sleepsAfter("17 bound at 0", x, 0, 5);
        Worlds.under(x, NONE);
        sleepsAfter("17 bound at 5", x, 1, 5);
        x.unbind(1);
        x.pass(3);
        x.bind(1);
        sleepsAfter("17 bound again", x, 1, 5);
    }

    private static void touchedWhenWoken() {
        DriverMoor x = Worlds.with(1);
        Worlds.lined(x, Worlds.SAVES, 0);
        x.pass(7);
        Worlds.under(x, 0);
        x.unplug(2);
        sleepsAfter("17 woken for a child that is gone", x, 0, 5);
        x.raise(1);
        sleepsAfter("17 woken by its line", x, 1, 5);
    }

    /** "or woken, called, set or read". */
    private static void touchedWhenUsed() {
        DriverMoor x = Worlds.with(1);
        x.open(0);
        x.pass(4);
        x.set(0, 1);
        sleepsAfter("17 set", x, 0, 5);
        x.set(0, 1);
        x.pass(4);
        x.get(0);
        sleepsAfter("17 read", x, 0, 5);
        x.get(0);
        x.pass(4);
        x.call(0, 1);
        sleepsAfter("17 called, for one tick", x, 0, 5);
        x.call(0, 1);
        sleepsAfter("17 called and woken", x, 0, 5);
    }

    /** "in each tick at the end of which, behind the ends of calls, it is held". */
    private static void touchedInTicksWhenHeld() {
        for (int ticks = 1; ticks <= 20; ticks++) {
            DriverMoor x = Worlds.with(1);
            x.call(x.open(0), ticks);
            sleepsAfter("17 held by a call of " + ticks, x, 0, ticks + 4);
        }
        DriverMoor y = Worlds.with(1);
        Worlds.under(y, 0);
        sleepsAfter("17 a child", y, 1, 5);
        sleepsAfter("17 held up to the tick in which that falls ASLEEP", y, 0, 5);
    }

    /** "is held, if a call of it goes on". */
    private static void heldByCallsThatGoOn() {
        DriverMoor x = Worlds.with(2);
        x.open(0);
        x.open(0);
        x.call(0, 3);
        x.call(1, 7);
        x.pass(5);
        Due.is("17 another is not held", x.isOn(1), false);
        sleepsAfter("17 held by the longer one", x, 0, 6);
        x.call(0, 20);
        x.pass(1);
        x.reset(0);
        sleepsAfter("17 held at the end of one tick", x, 0, 5);
    }

    /** "or a device that is ON has it as its parent or supplier". */
    private static void heldByWhatIsOnAlone() {
        DriverMoor x = Worlds.with(1);
        Worlds.under(x, 0);
        x.open(0);
        x.pass(10);
        x.get(0);
        sleepsAfter("17 a child that sleeps does not hold", x, 0, 5);
    }

    private static void heldByEachNeed() {
        DriverMoor x = Worlds.with(4);
        Worlds.needing(x, 1, 2, 3);
        x.open(4);
        for (int i = 0; i < 3; i++) {
            x.pass(4);
            x.get(0);
        }
        Due.is("17 not needed", x.isOn(0), false);
        Due.is("17 needed", x.isOn(1) && x.isOn(2) && x.isOn(3), true);
        x.pass(9);
        Due.is("17 needed up to 4 ticks ago", x.isOn(1) && x.isOn(2) && x.isOn(3), true);
        x.pass(1);
        Due.is("17 5 ticks ago", x.isOn(1) || x.isOn(2) || x.isOn(3), false);
    }

    private static void asleepOnce() {
        DriverMoor x = Worlds.with(1);
        x.pass(50);
        x.pass(50);
        Due.is("33 bound, asleep", x.events(), 2);
    }

    /** "fall ASLEEP, the one that was bound last first". */
    private static void asleepLastBoundFirst() {
        DriverMoor x = Worlds.with(3);
        x.unbind(0);
        x.bind(0);
        x.unbind(1);
        x.bind(1);
        int before = x.events();
        x.pass(5);
        Due.is("17 by binding, not by number", Events.from(x, before), "slept 1, slept 0, slept 2");
    }

    private static void oneTickAsManyTicks() {
        DriverMoor x = nested();
        DriverMoor y = nested();
        x.pass(37);
        for (int i = 0; i < 37; i++) {
            y.pass(1);
        }
        Due.is("17 37 at once, or one by one", Story.of(x), Story.of(y));
    }

    private static DriverMoor nested() {
        DriverMoor x = Worlds.with(1);
        Worlds.under(x, 0);
        Worlds.needing(x, NONE, 1, 0);
        x.call(x.open(1), 7);
        x.call(x.open(2), 15);
        return x;
    }

    /** "is to wake first its parent, if that is a device, and its suppliers, the first one first, and then it". */
    private static void wokenNeedsFirst() {
        DriverMoor x = Worlds.with(3);
        Worlds.needing(x, 2, 1, 0);
        Worlds.needing(x, NONE, 0, 1);
        x.open(3);
        x.open(4);
        x.pass(10);
        int before = x.events();
        x.get(1);
        Due.is("34 under the ROOT, two suppliers", Events.from(x, before), "woken 0, woken 1, woken 4");
        x.get(0);
        Due.is("34 what is ON has its needs ON", Events.from(x, before + 3), "woken 2, woken 3");
        x.pass(10);
        before = x.events();
        x.get(0);
        Due.is("34 the parent, the first, the second", Events.from(x, before), "woken 2, woken 1, woken 0, woken 3");
    }

    private static void wokenThroughAWholeChain() {
        DriverMoor x = Worlds.made();
        for (int i = 0; i < 24; i++) {
            Worlds.under(x, i - 1);
        }
        x.open(23);
        x.suspend();
        Due.is("26 all asleep", x.isOn(0) || x.isOn(23), false);
        x.resume();
        for (int i = 0; i < 12; i++) {
            x.pass(10);
        }
        Due.is("26 all asleep", x.isOn(0) || x.isOn(23), false);
        int before = x.events();
        x.get(0);
        Due.is("33 each is woken", x.events(), before + 24);
        for (int event = x.events() - 20; event < x.events(); event++) {
            Due.is("35 from above", x.eventOf(event), event - before);
        }
    }

    private static void wokenOnceThoughNeededTwice() {
        DriverMoor x = Worlds.with(1);
        for (int i = 1; i < 24; i++) {
            Worlds.needing(x, i - 1, i >= 2 ? i - 2 : NONE, i >= 3 ? i - 3 : NONE);
        }
        x.open(23);
        x.suspend();
        x.resume();
        for (int i = 0; i < 12; i++) {
            x.pass(10);
        }
        int before = x.events();
        x.get(0);
        Due.is("33 each is woken once", x.events(), before + 24);
    }

    /** "all that are ON fall ASLEEP": also if none is. */
    private static void suspendNone() {
        DriverMoor x = new DriverMoor();
        Due.is("18 no devices", x.suspend(), NONE);
        Due.is("19 none", x.resume(), 0);
        DriverMoor y = Worlds.with(2);
        y.unbind(0);
        y.pass(5);
        Due.is("18 none is ON", y.suspend(), NONE);
        Due.is("33 no event", y.events(), 4);
        Due.is("19 none is woken", y.resume(), 0);
    }

    private static void suspendAllThatAreOn() {
        DriverMoor x = Worlds.with(3);
        x.unbind(0);
        x.bind(0);
        x.open(1);
        x.pass(4);
        x.get(0);
        x.pass(1);
        int before = x.events();
        x.suspend();
        Due.is("18 the one that is ON", Events.from(x, before), "slept 1");
        DriverMoor y = Worlds.with(3);
        y.unbind(0);
        y.bind(0);
        y.suspend();
        Due.is("18 the one that was bound last first", Events.from(y, 5), "slept 0, slept 2, slept 1");
        Due.is("32 they are bound", y.given(3), 3);
    }

    /** "if a call of one goes on when it is its turn, that refuses". */
    private static void suspendRefusedByACall() {
        DriverMoor x = Worlds.with(3);
        x.open(1);
        x.call(0, 2);
        x.pass(1);
        Due.is("18 its last tick is not over", x.suspend(), 1);
        Due.is("18 not suspended", x.pass(1), 2);
        Due.is("18 over", x.suspend(), NONE);
        DriverMoor y = Worlds.with(3);
        y.call(y.open(0), 20);
        y.call(y.open(2), 20);
        Due.is("18 of two the one that was bound last", y.suspend(), 2);
        Due.is("33 none fell asleep ahead of it", y.events(), 3);
    }

    private static void suspendRefusedAtTheLastTurn() {
        DriverMoor x = Worlds.with(3);
        x.call(x.open(0), 1);
        Due.is("18 the first that was bound", x.suspend(), 0);
        Due.is("34 the others sleep and wake", Events.from(x, 3), "slept 2, slept 1, woken 1, woken 2");
        Due.is("26 all are ON", x.isOn(0) && x.isOn(1) && x.isOn(2), true);
        Due.badState("19 not suspended", x::resume);
    }

    private static void suspendNotRefusedByWhatIsOver() {
        DriverMoor x = Worlds.with(4);
        for (int device = 0; device < 4; device++) {
            x.call(x.open(device), device == 0 ? 1 : 20);
        }
        x.pass(1);
        x.close(1);
        x.reset(2);
        x.unbind(3);
        x.bind(3);
        Due.is("18 FINISHED or ABORTED calls do not go on", x.suspend(), NONE);
    }

    /** "IllegalStateException if it is suspended". */
    private static void suspendThrows() {
        DriverMoor x = Worlds.with(1);
        x.suspend();
        Due.badState("18 suspended", x::suspend);
        Due.is("33 no event by that", x.events(), 2);
        Due.is("19 one", x.resume(), 1);
        Due.is("18 again", x.suspend(), NONE);
    }

    /** "those that fell asleep by this are woken, the last one first". */
    private static void refusedIsWokenTheLastFirst() {
        DriverMoor x = Worlds.with(4);
        x.unbind(2);
        x.bind(2);
        x.pass(4);
        x.open(3);
        x.get(0);
        x.open(2);
        x.get(1);
        x.open(0);
        x.call(2, 9);
        x.pass(1);
        int before = x.events();
        Due.is("18 refused", x.suspend(), 0);
        Due.is("34 those ON, back in turn", Events.from(x, before), "slept 2, slept 3, woken 3, woken 2");
        Due.is("26 what slept ahead sleeps on", x.isOn(1), false);
    }

    private static void refusedLosesAndTouches() {
        DriverMoor x = Worlds.with(2);
        Worlds.ofId(x, Worlds.SAVES);
        for (int device = 0; device < 3; device++) {
            x.set(x.open(device), 40 + device);
        }
        x.pass(4);
        x.call(0, 1);
        x.suspend();
        sleepsAfter("17 woken at 4", x, 1, 5);
        Due.is("13 woken from sleep, its register is 0", x.get(1), 0);
        Due.is("13 saved", x.get(2), 42);
        DriverMoor y = Worlds.with(2);
        y.set(y.open(0), 40);
        y.call(0, 20);
        y.suspend();
        Due.is("13 the one that refuses does not fall asleep", y.get(0), 40);
    }

    /** "nothing can be opened, called, set, read, mapped or reset, and no ticks pass". */
    private static void nothingWhileSuspended() {
        DriverMoor x = Worlds.made();
        Worlds.lined(x, Worlds.SAVES, 0);
        x.set(x.open(0), 33);
        x.map(0, 3);
        x.suspend();
        x.raise(0);
        String before = Story.of(x);
        Due.badState("9", () -> x.open(0));
        Due.badState("11", () -> x.call(0, 1));
        Due.badState("12", () -> x.set(0, 1));
        Due.badState("13", () -> x.get(0));
        Due.badState("14", () -> x.map(0, 1));
        Due.badState("8", () -> x.reset(0));
        Due.badState("17", () -> x.pass(1));
        Due.badState("18", x::suspend);
        Due.is("18 nothing changes", Story.of(x), before);
        x.resume();
        Due.is("19 what it was", x.get(0) * 100 + x.access(0, 0), 3303);
        Due.is("19 all that can be done again", x.set(0, 1) * 100 + x.map(0, 1) * 10 + x.call(0, 1), 3310);
        Due.is("19 all that can be done again", x.open(0) * 100 + x.reset(0) * 10 + x.pass(1), 111);
    }

    private static void whatGoesOnWhileSuspended() {
        DriverMoor x = Worlds.with(2);
        x.map(x.open(0), 3);
        x.suspend();
        Due.is("2 plug", Worlds.under(x, NONE), 2);
        Due.is("4 driver", x.driver(4, 0, 9, false), 2);
        Due.is("5 load", x.load(2, 9), 0);
        Due.is("15 unmap", x.unmap(0, 0), 3);
        Due.is("16 access", x.access(0, 0), NONE);
        Due.is("10 close", x.close(0), false);
        Due.is("6 unbind", x.unbind(1), 1);
        Due.is("7 bind", x.bind(1), 0);
        Due.is("3 unplug", x.unplug(0), 1);
        Due.is("21 openLine", x.openLine(0), 0);
        Due.is("20 raise", x.raise(Worlds.lined(x, 0, 0)), 0);
        Due.is("19 none is bound still", x.resume(), 0);
        Due.is("19 those that wait are bound", Events.from(x, x.events() - 3), "bound 1, bound 2, bound 3");
    }

    /** "IllegalStateException if it is not suspended". */
    private static void resumeThrows() {
        DriverMoor x = Worlds.with(1);
        Due.badState("19 never suspended", x::resume);
        x.suspend();
        x.resume();
        Due.badState("19 resumed", x::resume);
        x.call(x.open(0), 5);
        x.suspend();
        Due.badState("19 refused", x::resume);
        Due.is("33 no event by that", x.events(), 3);
    }

    /** "are woken, the one that was bound first first". */
    private static void resumeTheFirstBoundFirst() {
        DriverMoor x = Worlds.with(3);
        x.unbind(0);
        x.bind(0);
        Worlds.needing(x, NONE, 0, 1);
        x.suspend();
        int before = x.events();
        Due.is("19 all", x.resume(), 4);
        Due.is("34 by binding, not by number", Events.from(x, before), "woken 1, woken 2, woken 0, woken 3");
        DriverMoor y = Worlds.made();
        for (int i = 0; i < 24; i++) {
            Worlds.under(y, i - 1);
        }
        y.suspend();
        Due.is("19 all 24", y.resume(), 24);
    }

    /** "those that fell asleep by it": not those that were ASLEEP before. */
    private static void resumeThoseThatFellAsleepByIt() {
        DriverMoor x = Worlds.with(3);
        x.open(1);
        x.pass(5);
        x.get(0);
        x.suspend();
        Due.is("19 one", x.resume(), 1);
        Due.is("26 that one", x.isOn(1), true);
        Due.is("26 not the others", x.isOn(0) || x.isOn(2), false);
        x.pass(5);
        x.suspend();
        Due.is("19 not by an earlier one", x.resume(), 0);
        x.get(0);
        x.call(x.open(2), 1);
        x.call(x.open(0), 1);
        x.suspend();
        x.pass(6);
        x.suspend();
        Due.is("19 nor by one that was refused", x.resume(), 0);
    }

    /** "and are bound still". */
    private static void resumeThoseThatAreBoundStill() {
        DriverMoor x = Worlds.with(4);
        Worlds.under(x, 0);
        x.suspend();
        x.unbind(0);
        x.unbind(1);
        x.bind(1);
        x.unplug(2);
        int before = x.events();
        Due.is("19 one", x.resume(), 1);
        Due.is("34 woken, and the other bound behind that", Events.from(x, before), "woken 3, bound 1");
        Due.is("23 by hand, and waiting for it", x.reason(0) * 10 + x.reason(4), 72);
        x.pass(5);
        x.suspend();
        Due.is("19 what was bound again fell asleep by no suspension", x.resume(), 0);
        Due.is("26 it sleeps on", x.isOn(1), false);
    }

    /** "Returns how many devices are woken by that": what is bound behind it may wake others. */
    private static void resumeCountsNotWhatIsBound() {
        DriverMoor x = Worlds.with(2);
        x.pass(5);
        x.suspend();
        Worlds.needing(x, 0, 1, NONE);
        int before = x.events();
        Due.is("19 none", x.resume(), 0);
        Due.is("34 woken to bind another", Events.from(x, before), "woken 0, woken 1, bound 2");
    }

    private static void resumeTouches() {
        DriverMoor x = Worlds.with(1);
        x.pass(4);
        x.suspend();
        x.resume();
        sleepsAfter("17 woken at 4", x, 0, 5);
    }

    /** "then each line ..., by rising numbers, is asked". */
    private static void resumeAsksLinesByNumbers() {
        DriverMoor x = Worlds.made();
        for (int line = 7; line >= 0; line--) {
            Worlds.lined(x, Worlds.SAVES, line);
        }
        Worlds.under(x, NONE);
        x.pass(5);
        x.get(x.open(8));
        x.suspend();
        for (int device = 0; device < 8; device++) {
            Due.is("20 not asked", x.raise(device), 0);
        }
        int before = x.events();
        Due.is("19 the one that fell asleep by it", x.resume(), 1);
        Due.is("34 first, then lines 0 to 7", Events.from(x, before),
                "woken 8, woken 7, woken 6, woken 5, woken 4, woken 3, woken 2, woken 1, woken 0");
    }

    /** "each line that is not shut": two strikes do not shut it, three do. */
    private static void resumeAsksNoShutLine() {
        DriverMoor x = Worlds.made();
        for (int line = 0; line < 8; line++) {
            Worlds.lined(x, Worlds.SAVES, line);
        }
        Worlds.shut(x, 0);
        Worlds.shut(x, 7);
        int stranger = Worlds.lined(x, Worlds.UNKNOWN, 3);
        x.raise(stranger);
        x.raise(stranger);
        x.suspend();
        for (int device = 0; device < 8; device++) {
            x.raise(device);
        }
        x.resume();
        for (int device = 0; device < 8; device++) {
            Due.is("27 line " + device, x.isPending(device), device == 0 || device == 7);
        }
    }

    /** "is asked without strikes": "to be asked without strikes leaves them as they are". */
    private static void resumeAsksWithoutStrikes() {
        DriverMoor x = Worlds.made();
        Worlds.lined(x, Worlds.SAVES, 0);
        int stranger = Worlds.lined(x, Worlds.UNKNOWN, 0);
        x.raise(stranger);
        x.raise(stranger);
        x.suspend();
        x.resume();
        Due.is("28 none handled, and no strike", x.strikes(0), 2);
        x.suspend();
        x.raise(0);
        x.resume();
        Due.is("27 handled", x.isPending(0), false);
        Due.is("28 and the strikes stay", x.strikes(0), 2);
    }

    /** "Behind each call of a method ... devices are bound": behind the lines as well. */
    private static void resumeAsksAheadOfBinding() {
        DriverMoor x = Worlds.made();
        Worlds.lined(x, Worlds.LOSES, 0);
        Worlds.lined(x, Worlds.SAVES, 1);
        x.pass(5);
        x.suspend();
        int child = x.plug(0, Worlds.LOSES, 0, 0, true, NONE, NONE);
        for (int device = 0; device < 3; device++) {
            x.raise(device);
        }
        int before = x.events();
        x.resume();
        Due.is("34 the line wakes, then the child is bound", Events.from(x, before), "woken 1, woken 0, bound 2");
        Due.is("27 its parent slept when it was asked", x.isPending(0), true);
        Due.is("27 what is bound is not pending", x.isPending(child), false);
    }

    /** "those that lines wake not counted". */
    private static void resumeCountsNotWhatLinesWake() {
        DriverMoor x = Worlds.with(1);
        x.plug(0, Worlds.SAVES, 0, 5, true, NONE, NONE);
        Worlds.lined(x, Worlds.LOSES, 5);
        x.pass(10);
        x.suspend();
        x.raise(1);
        x.raise(2);
        int before = x.events();
        Due.is("19 none", x.resume(), 0);
        Due.is("34 woken by a line, its parent first", Events.from(x, before), "woken 0, woken 1");
        Due.is("27 what sleeps and does not save is not woken", x.isPending(2), true);
    }
}
