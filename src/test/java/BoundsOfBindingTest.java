/**
 * The sentences of "Binding", and of promises 6 to 8, that name a bound: a test for each.
 */
public final class BoundsOfBindingTest {
    private static final int NONE = DriverMoor.NONE;

    public static void main(String[] args) {
        firstReasonThatApplies();
        noDriverAheadOfAll();
        needsThatSleepAreBound();
        nearestAncestorWithAWindow();
        windowsInWindowsOfEachSize();
        placesOfTheRoot();
        lowestMultiple();
        otherSpacesDoNotMatter();
        theSameSpaceThroughAncestorsWithout();
        whatIsNotBoundHasNoWindow();
        lineNotSharedByAll();
        lineSharedByAll();
        linesApart();
        sizeZeroAndNoLine();
        againAndAgainTheLowest();
        freedForTheLowestThatWaits();
        notWhileSuspended();
        refusedSuspendIsNone();
        bindingWakesNeeds();
        boundIsOnZeroNotPending();
        unbindsAllThatNeedIt();
        unbindsNothingElse();
        lastBoundFirst();
        unbindingGivesBack();
        unplugTogether();
        byHandStays();
        byHandAndUnboundWithAnother();
        othersWaitForIt();
        unbindThrows();
        bindThrows();
        bindTellsWhy();
        resetCounts();
        resetAsleep();
        resetThrows();
        Due.end("BoundsOfBindingTest");
    }

    /** "is refused for the first of these reasons that applies": 2 to 7 all apply, and go one by one. */
    private static void firstReasonThatApplies() {
        DriverMoor x = Worlds.with(2);
        x.driver(1 << 5, 0, 0, false);
        int asked = x.plug(0, 5, 8, 3, false, 1, NONE);
        for (int i = 0; i < 7; i++) {
            Worlds.sized(x, NONE, 8);
        }
        x.unbind(asked);
        int room = Worlds.sized(x, NONE, 8);
        int line = x.plug(NONE, 0, 0, 3, false, NONE, NONE);
        x.driver(1 << 5, 1, 4, false);
        x.unbind(1);
        x.unbind(0);
        Due.is("23 its parent", x.reason(asked), 2);
        x.bind(0);
        Due.is("23 a supplier", x.reason(asked), 3);
        x.bind(1);
        Due.is("23 firmware", x.reason(asked), 4);
        x.load(3, 4);
        Due.is("23 room", x.reason(asked), 5);
        x.unbind(room);
        Due.is("23 its line", x.reason(asked), 6);
        x.unbind(line);
        Due.is("23 by hand", x.reason(asked), 7);
        Due.is("7 none", x.bind(asked), 0);
        Due.is("23 bound", x.reason(asked), 0);
        x.unplug(asked);
        Due.is("23 there no more", x.reason(asked), 8);
    }

    /** "1 no driver has its id in its table": 2, 3, 5 and 6 apply as well. */
    private static void noDriverAheadOfAll() {
        DriverMoor x = Worlds.made();
        x.plug(NONE, 0, 1, 0, false, NONE, NONE);
        int strange = x.plug(0, Worlds.UNKNOWN, 0, NONE, false, NONE, NONE);
        int asked = x.plug(strange, 5, 8, 0, false, strange, NONE);
        Due.is("23 no driver", x.reason(asked), 1);
        x.driver(1 << 5, 0, 1, false);
        Due.is("23 its parent", x.reason(asked), 2);
    }

    private static void needsThatSleepAreBound() {
        DriverMoor x = Worlds.with(3);
        x.pass(5);
        Due.is("23 asleep is bound", x.reason(Worlds.needing(x, 0, 1, 2)), 0);
    }

    /** "The space of a device is the window of its nearest ancestor that has one". */
    private static void nearestAncestorWithAWindow() {
        DriverMoor x = Worlds.made();
        Worlds.sized(x, NONE, 8);
        int outer = Worlds.sized(x, NONE, 8);
        int half = Worlds.sized(x, Worlds.under(x, outer), 4);
        int other = Worlds.sized(x, outer, 4);
        Due.is("25 in the parent of its parent", x.window(half), 8);
        Due.is("25 beside it", x.window(other), 12);
        int inner = Worlds.sized(x, Worlds.under(x, Worlds.under(x, other)), 2);
        Due.is("25 in the nearest, not the outer one", x.window(inner), 12);
        Due.is("32 none of them is given by the ROOT", x.given(0), 16);
    }

    /** "within its space": less than it, all of it, more than it; and a full one. */
    private static void windowsInWindowsOfEachSize() {
        int[] sizes = {1, 2, 4, 8};
        for (int outer : sizes) {
            for (int inner : sizes) {
                DriverMoor x = Worlds.made();
                Worlds.sized(x, NONE, 8);
                int bus = Worlds.sized(x, NONE, outer);
                for (int i = 0; i < outer / inner; i++) {
                    Due.is("25 " + inner + " in " + outer, x.window(Worlds.sized(x, bus, inner)), 8 + i * inner);
                }
                int more = Worlds.sized(x, bus, inner);
                Due.is("23 " + inner + " in a full " + outer, x.reason(more), 5);
                Due.is("25 no window", x.window(more), NONE);
            }
        }
    }

    /** "or the places 0 to 63 if none has". */
    private static void placesOfTheRoot() {
        for (int size : new int[] {4, 8}) {
            DriverMoor x = Worlds.made();
            for (int begin = 0; begin < 64; begin += size) {
                Due.is("25 all 64 places", x.window(Worlds.sized(x, NONE, size)), begin);
            }
            Due.is("23 no 65th", x.reason(Worlds.sized(x, NONE, 1)), 5);
            Due.is("32 all are given", x.given(0), 64);
        }
        DriverMoor y = Worlds.made();
        for (int i = 0; i < 7; i++) {
            Worlds.sized(y, NONE, 8);
        }
        for (int place = 56; place < 64; place++) {
            Due.is("25 the last places", y.window(Worlds.sized(y, NONE, 1)), place);
        }
        Due.is("23 no place is left for 1", y.reason(Worlds.sized(y, NONE, 1)), 5);
        y.unplug(7);
        Due.is("25 it had waited for 56", y.window(15), 56);
        y.unplug(14);
        Due.is("23 the last place alone is too little for 2", y.reason(Worlds.sized(y, NONE, 2)), 5);
        y.unplug(13);
        Due.is("25 62 and 63", y.window(16), 62);
    }

    /** "as many places, side by side, as its size, ... from a multiple of the size on, ... the lowest such". */
    private static void lowestMultiple() {
        DriverMoor x = Worlds.made();
        int[][] rows = {{1, 0}, {8, 8}, {2, 2}, {4, 4}, {1, 1}, {4, 16}, {8, 24}, {2, 20}, {1, 22}, {2, 32}, {1, 23}};
        for (int[] row : rows) {
            Due.is("25 the lowest multiple of " + row[0], x.window(Worlds.sized(x, NONE, row[0])), row[1]);
        }
        x.unbind(2);
        x.unbind(3);
        Due.is("25 2 to 7 are free: 4 fit at 4 alone", x.window(Worlds.sized(x, NONE, 4)), 4);
        Due.is("25 and 2 at 2", x.window(Worlds.sized(x, NONE, 2)), 2);
        x.unbind(0);
        x.unbind(4);
        Due.is("25 0 and 1 are free", x.window(Worlds.sized(x, NONE, 2)), 0);
    }

    /** "in the window of another bound device with the same space": that of others may have the same places. */
    private static void otherSpacesDoNotMatter() {
        DriverMoor x = Worlds.made();
        for (int i = 0; i < 24; i++) {
            Due.is("25 each in the whole window of the one above", x.window(Worlds.sized(x, i - 1, 8)), 0);
        }
        Due.is("32 the places of the first alone", x.given(0), 8);
        Due.is("32 all are bound", x.given(3), 24);
        DriverMoor y = Worlds.made();
        Worlds.sized(y, NONE, 4);
        Worlds.sized(y, NONE, 4);
        Due.is("25 in the first", y.window(Worlds.sized(y, 0, 4)), 0);
        Due.is("25 in the second", y.window(Worlds.sized(y, 1, 4)), 4);
    }

    private static void theSameSpaceThroughAncestorsWithout() {
        DriverMoor x = Worlds.with(2);
        Due.is("25 the ROOT's", x.window(Worlds.sized(x, 0, 2)), 0);
        Due.is("25 beside it, under another bus", x.window(Worlds.sized(x, 1, 2)), 2);
        Due.is("25 beside it, in the ROOT", x.window(Worlds.sized(x, NONE, 2)), 4);
        Due.is("32 all are given by the ROOT", x.given(0), 6);
    }

    private static void whatIsNotBoundHasNoWindow() {
        DriverMoor x = Worlds.made();
        x.plug(NONE, Worlds.UNKNOWN, 8, 0, false, NONE, NONE);
        x.plug(NONE, 0, 8, 0, false, NONE, NONE);
        Due.is("25 the first was never bound", x.window(1), 0);
        x.unbind(1);
        x.plug(NONE, 0, 8, 0, false, NONE, NONE);
        Due.is("25 the second is not bound any more", x.window(2), 0);
        Due.is("32 8 places", x.given(0), 8);
        Due.is("7 no room behind it, but no line", x.bind(1), 6);
    }

    /** "if no bound device has it, or if all that do, and this one, share it". */
    private static void lineNotSharedByAll() {
        for (int shares = 0; shares < 4; shares++) {
            DriverMoor x = Worlds.made();
            x.plug(NONE, 0, 0, 7, (shares & 1) == 1, NONE, NONE);
            Due.is("23 none has it", x.reason(0), 0);
            x.plug(NONE, 0, 0, 7, (shares & 2) == 2, NONE, NONE);
            Due.is("23 both share it, or it is not free", x.reason(1), shares == 3 ? 0 : 6);
            x.pass(5);
            Due.is("23 asleep it has it still", x.reason(1), shares == 3 ? 0 : 6);
            x.unbind(0);
            Due.is("23 none has it any more", x.reason(1), 0);
        }
    }

    private static void lineSharedByAll() {
        DriverMoor x = Worlds.made();
        for (int i = 0; i < 24; i++) {
            boolean isShared = i != 20;
            Due.is("23 all that have it share it", x.reason(x.plug(NONE, 0, 0, 0, isShared, NONE, NONE)),
                    isShared ? 0 : 6);
        }
        Due.is("32 one line", x.given(1), 1);
        for (int i = 0; i < 24; i++) {
            Due.is("23 as long as one has it", x.reason(20), 6);
            if (i != 20) {
                x.unbind(i);
            }
            if (i == 22) {
                Due.is("32 one has it", x.given(1), 1);
            }
        }
    }

    private static void linesApart() {
        DriverMoor x = Worlds.made();
        for (int line = 0; line < 8; line++) {
            Due.is("23 another line is free", x.reason(x.plug(NONE, 0, 0, line, false, NONE, NONE)), 0);
        }
        for (int line = 0; line < 8; line++) {
            Due.is("23 no line is free", x.reason(x.plug(NONE, 0, 0, line, true, NONE, NONE)), 6);
        }
    }

    /** "Sizes of 0 and no line are always right." */
    private static void sizeZeroAndNoLine() {
        DriverMoor x = Worlds.made();
        for (int line = 0; line < 8; line++) {
            x.plug(NONE, 0, 8, line, false, NONE, NONE);
        }
        Due.is("23 in a full ROOT, with all lines taken", x.reason(Worlds.under(x, NONE)), 0);
        Worlds.sized(x, 0, 8);
        Due.is("23 in a full window", x.reason(Worlds.under(x, 0)), 0);
        Due.is("25 no window", x.window(10), NONE);
        Due.is("23 another without a line", x.reason(x.plug(9, 0, 0, NONE, true, NONE, NONE)), 0);
    }

    /** "again and again the lowest one that is not refused, until all are refused or bound". */
    private static void againAndAgainTheLowest() {
        DriverMoor x = new DriverMoor();
        for (int i = 0; i < 24; i++) {
            Worlds.under(x, i - 1);
        }
        x.driver(1, 0, 0, false);
        Due.is("4 all, by one call", x.given(3), 24);
        Due.is("33 an event for each", x.events(), 24);
        for (int event = 4; event < 24; event++) {
            Due.is("35 from above", x.eventOf(event), event);
        }
        DriverMoor y = new DriverMoor();
        y.plug(NONE, 1, 0, 0, false, NONE, NONE);
        y.plug(NONE, 0, 8, NONE, false, NONE, NONE);
        y.plug(1, 0, 8, 0, false, NONE, NONE);
        y.plug(1, 0, 8, NONE, false, NONE, NONE);
        y.driver(3, 0, 0, false);
        Due.is("35 one that is refused is left out", Events.from(y, 0), "bound 0, bound 1, bound 3");
        Due.is("23 its room is taken then", y.reason(2), 5);
    }

    private static void freedForTheLowestThatWaits() {
        DriverMoor x = Worlds.made();
        for (int i = 0; i < 4; i++) {
            x.plug(NONE, 0, 0, 5, i != 0, NONE, NONE);
        }
        x.unbind(0);
        Due.is("35 all that share it, the lowest first", Events.from(x, 1), "unbound 0, bound 1, bound 2, bound 3");
        DriverMoor y = Worlds.made();
        for (int i = 0; i < 4; i++) {
            y.plug(NONE, 0, 0, 5, false, NONE, NONE);
        }
        y.unplug(0);
        Due.is("35 the lowest alone", Events.from(y, 1), "unbound 0, unplugged 0, bound 1");
    }

    /** "as long as the world is not suspended". */
    private static void notWhileSuspended() {
        DriverMoor x = new DriverMoor();
        x.driver(1, 0, 1, false);
        Worlds.under(x, NONE);
        x.suspend();
        x.load(0, 1);
        Due.is("5 not behind load", x.reason(0), NONE);
        Worlds.under(x, NONE);
        Due.is("2 not behind plug", x.reason(1), NONE);
        x.driver(1, 0, 0, false);
        Due.is("4 not behind driver", x.given(3), 0);
        x.unplug(1);
        x.openLine(0);
        Due.is("3 21 not behind unplug and openLine", x.given(3), 0);
        x.resume();
        Due.is("19 behind resume", x.reason(0), 0);
    }

    private static void refusedSuspendIsNone() {
        DriverMoor x = Worlds.with(1);
        x.call(x.open(0), 2);
        Due.is("18 refused", x.suspend(), 0);
        Due.is("2 bound at once", x.reason(Worlds.under(x, 0)), 0);
    }

    /** "To bind a device is to wake its parent, if that is a device, and its suppliers". */
    private static void bindingWakesNeeds() {
        DriverMoor x = Worlds.with(4);
        Worlds.under(x, 3);
        x.pass(10);
        int before = x.events();
        Worlds.needing(x, 2, 4, 1);
        Due.is("2 the parent, the suppliers, theirs ahead of them", Events.from(x, before),
                "woken 2, woken 3, woken 4, woken 1, bound 5");
        Due.is("2 what it does not need sleeps on", x.isOn(0), false);
        before = x.events();
        Worlds.needing(x, 2, 4, 1);
        Due.is("2 what is ON is not woken", Events.from(x, before), "bound 6");
        x.pass(10);
        before = x.events();
        Worlds.under(x, NONE);
        Due.is("2 the ROOT is not woken", Events.from(x, before), "bound 7");
    }

    /** "it is ON, its register 0, and it is not pending". */
    private static void boundIsOnZeroNotPending() {
        DriverMoor x = Worlds.made();
        Worlds.lined(x, Worlds.SAVES, 0);
        x.set(x.open(0), 99);
        x.pass(5);
        x.unbind(0);
        x.raise(0);
        Due.is("27 pending", x.isPending(0), true);
        x.bind(0);
        Due.is("26 ON", x.isOn(0), true);
        Due.is("27 not pending", x.isPending(0), false);
        Due.is("13 0", x.get(x.open(0)), 0);
        x.pass(4);
        Due.is("17 touched when it was bound", x.isOn(0), true);
    }

    /** "all bound devices as well that are below one of them, or have one as a supplier, and so on". */
    private static void unbindsAllThatNeedIt() {
        DriverMoor x = Worlds.made();
        Worlds.under(x, NONE);
        for (int i = 1; i < 24; i++) {
            if (i % 3 == 0) {
                Worlds.under(x, i - 1);
            } else {
                Worlds.needing(x, NONE, i % 3 == 1 ? i - 1 : NONE, i % 3 == 2 ? i - 1 : NONE);
            }
        }
        Due.is("6 the last needs none", x.unbind(23), 1);
        x.bind(23);
        Due.is("6 from the middle on", x.unbind(12), 12);
        Due.is("6 what is left", x.given(3), 12);
        Due.is("6 not what is unbound already", x.unbind(10), 2);
        x.bind(10);
        Due.is("6 the rest", x.unbind(0), 12);
        Due.is("6 none", x.given(3), 0);
    }

    private static void unbindsNothingElse() {
        DriverMoor x = Worlds.with(3);
        Worlds.needing(x, 0, 1, 2);
        Due.is("6 not its parent and suppliers", x.unbind(3), 1);
        Due.is("6 they are bound", x.given(3), 3);
    }

    /** "the one that was bound last first". */
    private static void lastBoundFirst() {
        DriverMoor x = Worlds.with(1);
        for (int i = 0; i < 3; i++) {
            Worlds.under(x, 0);
        }
        x.unbind(1);
        x.bind(1);
        x.unbind(2);
        x.bind(2);
        int before = x.events();
        x.unbind(0);
        Due.is("6 by binding, not by number", Events.from(x, before), "unbound 2, unbound 1, unbound 3, unbound 0");
    }

    /** "its calls end, ABORTED, its maps are gone, its window and its line are free, ... not pending any more". */
    private static void unbindingGivesBack() {
        DriverMoor x = Worlds.made();
        x.plug(NONE, Worlds.SAVES, 8, 0, false, NONE, NONE);
        x.plug(0, Worlds.LOSES, 8, 1, false, NONE, NONE);
        for (int device = 0; device < 2; device++) {
            int handle = x.open(device);
            x.call(handle, 1);
            x.call(handle, 20);
            for (int slot = 0; slot < 8; slot++) {
                x.map(handle, slot);
            }
        }
        x.pass(1);
        Due.is("32 all is given", x.given(0) * 1000 + x.given(1) * 100 + x.given(2), 8216);
        x.unbind(0);
        Due.is("32 all is given back", x.given(0) + x.given(1) + x.given(2) + x.given(3), 0);
        for (int call = 0; call < 4; call++) {
            Due.is("30 what was over is not ABORTED", x.callState(call),
                    call % 2 == 0 ? DriverMoor.FINISHED : DriverMoor.ABORTED);
        }
        x.pass(20);
        Due.is("30 ABORTED it stays", x.callState(3), DriverMoor.ABORTED);
        x.bind(0);
        Due.is("14 all slots are free", x.map(x.open(1), 9), 0);
        x.suspend();
        x.raise(1);
        x.unbind(0);
        Due.is("27 not pending", x.isPending(1), false);
    }

    /** "What is unplugged is unbound so ahead of that, all together; ... the greatest number first." */
    private static void unplugTogether() {
        DriverMoor x = Worlds.with(2);
        Worlds.under(x, 0);
        Worlds.needing(x, NONE, 2, NONE);
        Worlds.lined(x, Worlds.UNKNOWN, 0);
        x.plug(0, Worlds.UNKNOWN, 0, 0, true, NONE, NONE);
        x.unbind(2);
        x.bind(2);
        Worlds.under(x, 2);
        x.raise(4);
        x.raise(5);
        int before = x.events();
        Due.is("3 those below it", x.unplug(0), 4);
        Due.is("3 unbound, the last bound first, then unplugged, the greatest first", Events.from(x, before),
                "unbound 6, unbound 3, unbound 2, unbound 0, unplugged 6, unplugged 5, unplugged 2, unplugged 0");
        Due.is("27 pending no more", x.isPending(5), false);
        Due.is("27 another is", x.isPending(4), true);
    }

    /** "A device that was unbound by hand stays so, until it is bound by hand". */
    private static void byHandStays() {
        DriverMoor x = Worlds.with(1);
        x.unbind(0);
        x.driver(1, 9, 0, false);
        x.load(0, 9);
        Worlds.under(x, NONE);
        x.unbind(1);
        x.bind(1);
        x.unplug(1);
        x.suspend();
        x.resume();
        x.pass(50);
        Due.is("23 by hand still", x.reason(0), 7);
        Due.is("7 bound by hand", x.bind(0), 0);
        Due.is("24 to the better driver", x.driverOf(0), 2);
    }

    private static void byHandAndUnboundWithAnother() {
        DriverMoor x = Worlds.with(1);
        Worlds.under(x, 0);
        x.unbind(1);
        x.unbind(0);
        Due.is("7 it can be told ahead", x.bind(1), 2);
        Due.badState("7 that is once", () -> x.bind(1));
        x.bind(0);
        Due.is("7 and is bound with its parent", x.reason(1), 0);
        x.unbind(1);
        x.unbind(0);
        x.bind(0);
        Due.is("7 not told it stays", x.reason(1), 7);
    }

    /** "others that were unbound with it are bound again, when they can". */
    private static void othersWaitForIt() {
        DriverMoor x = Worlds.with(1);
        Worlds.under(x, 0);
        Worlds.needing(x, NONE, NONE, 1);
        x.unbind(0);
        Worlds.under(x, NONE);
        Due.is("23 they wait", x.reason(1) * 10 + x.reason(2), 23);
        Due.badState("7 they were not unbound by hand", () -> x.bind(1));
        int before = x.events();
        x.bind(0);
        Due.is("7 bound again", Events.from(x, before), "bound 0, bound 1, bound 2");
    }

    /** Promise 6: "if there is no such device"; "if it is not bound". */
    private static void unbindThrows() {
        DriverMoor x = Worlds.with(2);
        Worlds.under(x, 0);
        for (int wrong : new int[] {-1, -2, 3, 24}) {
            Due.noDevice("6 " + wrong, () -> x.unbind(wrong));
        }
        for (int wrong : Worlds.FAR) {
            Due.noDevice("6 " + wrong, () -> x.unbind(wrong));
        }
        x.unbind(0);
        Due.badState("6 unbound by hand", () -> x.unbind(0));
        Due.badState("6 unbound with another", () -> x.unbind(2));
        int strange = Worlds.ofId(x, Worlds.UNKNOWN);
        Due.badState("6 never bound", () -> x.unbind(strange));
        x.unplug(1);
        Due.badState("6 there no more", () -> x.unbind(1));
        x.bind(0);
        x.suspend();
        Due.is("6 while the world is suspended", x.unbind(0), 2);
    }

    /** Promise 7: "if there is no such device"; "if it was not unbound by hand, or is there no more". */
    private static void bindThrows() {
        DriverMoor x = Worlds.with(1);
        Worlds.under(x, 0);
        for (int wrong : new int[] {-1, -2, 2, 24}) {
            Due.noDevice("7 " + wrong, () -> x.bind(wrong));
        }
        for (int wrong : Worlds.FAR) {
            Due.noDevice("7 " + wrong, () -> x.bind(wrong));
        }
        Due.badState("7 bound", () -> x.bind(0));
        int strange = Worlds.ofId(x, Worlds.UNKNOWN);
        Due.badState("7 never bound", () -> x.bind(strange));
        x.unbind(0);
        Due.badState("7 unbound with another", () -> x.bind(1));
        x.unplug(0);
        Due.badState("7 by hand, but there no more", () -> x.bind(0));
    }

    /** "Returns why it is refused behind that, and behind what is bound by it; 0 if it is not, or is bound." */
    private static void bindTellsWhy() {
        DriverMoor x = Worlds.made();
        x.plug(NONE, 0, 8, 0, false, NONE, NONE);
        x.plug(0, 0, 8, 1, false, NONE, NONE);
        x.unbind(1);
        Worlds.sized(x, 0, 1);
        Due.is("7 room", x.bind(1), 5);
        x.unplug(2);
        Due.is("7 bound then", x.reason(1), 0);
        x.unbind(1);
        x.plug(NONE, 0, 0, 1, true, NONE, NONE);
        Due.is("7 its line", x.bind(1), 6);
        x.unbind(0);
        x.suspend();
        Due.is("7 not refused while the world is suspended", x.bind(0), 0);
        Due.is("23 nor bound", x.reason(0), NONE);
        x.resume();
        Due.is("23 bound", x.reason(0), 0);
        x.unbind(0);
        x.suspend();
        x.plug(NONE, 0, 0, 0, false, NONE, NONE);
        Due.is("7 0 though a greater number waits too", x.bind(0), 0);
        x.resume();
        Due.is("23 the lowest was first", x.reason(0) * 10 + x.reason(4), 6);
    }

    /** Promise 8: "Returns how many calls end by that." */
    private static void resetCounts() {
        DriverMoor x = Worlds.with(2);
        x.open(0);
        x.open(1);
        Due.is("8 none was made", x.reset(0), 0);
        for (int i = 0; i < 99; i++) {
            x.call(0, 20);
        }
        x.call(1, 20);
        Due.is("8 all 99", x.reset(0), 99);
        Due.is("8 they are ABORTED", x.callState(0) + x.callState(98), 2 * DriverMoor.ABORTED);
        Due.is("8 the other goes on", x.callState(99), DriverMoor.GOING);
        Due.is("8 none goes on", x.reset(0), 0);
    }

    /** "its register, and what was saved of it, is 0, and it is not pending". */
    private static void resetAsleep() {
        DriverMoor x = Worlds.made();
        Worlds.lined(x, Worlds.SAVES, 0);
        Worlds.lined(x, Worlds.LOSES, 1);
        x.open(0);
        x.open(1);
        x.set(0, 50);
        x.set(1, 50);
        x.reset(0);
        x.reset(1);
        Due.is("8 the register", x.get(0) + x.get(1), 0);
        x.set(0, 51);
        x.map(0, 9);
        x.map(1, 9);
        x.pass(5);
        x.raise(1);
        int before = x.events();
        Due.is("8 asleep, but bound", x.reset(0) + x.reset(1), 0);
        Due.is("8 not woken", x.events(), before);
        Due.is("8 not pending", x.isPending(1), false);
        Due.is("8 maps let go", x.given(2), 0);
        Due.is("8 what was saved", x.get(0), 0);
        x.pass(4);
        x.reset(0);
        x.pass(1);
        Due.is("8 does not touch", x.isOn(0), false);
    }

    /** Promise 8: "if there is no such device"; "if it is not bound, or the world is suspended". */
    private static void resetThrows() {
        DriverMoor x = Worlds.with(2);
        for (int wrong : new int[] {-1, -2, 2, 24}) {
            Due.noDevice("8 " + wrong, () -> x.reset(wrong));
        }
        for (int wrong : Worlds.FAR) {
            Due.noDevice("8 " + wrong, () -> x.reset(wrong));
        }
        x.unbind(0);
        Due.badState("8 not bound", () -> x.reset(0));
        x.suspend();
        Due.badState("8 suspended", () -> x.reset(1));
        Due.noDevice("8 no such device, suspended", () -> x.reset(2));
        x.resume();
        Due.is("8 bound, not suspended", x.reset(1), 0);
    }
}
