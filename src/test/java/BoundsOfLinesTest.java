/**
 * The sentences of "Lines", and of promises 20 and 21, that name a bound: a test for each.
 */
public final class BoundsOfLinesTest {
    private static final int NONE = DriverMoor.NONE;

    public static void main(String[] args) {
        raiseThrows();
        raisedByWhatIsThere();
        notAskedWhileSuspended();
        notAskedIfShut();
        boundOnesOfTheLineAlone();
        inTheOrderOfBinding();
        onOrSaving();
        savingByTheDriverItIsBoundTo();
        neededAndNotPending();
        handledByAll();
        noneHandles();
        handledEndsStrikes();
        thirdStrikeShuts();
        shutOnceTillOpened();
        strikesOfEachLine();
        strikesStayWithoutDevices();
        openLineThrows();
        openLineSetsStrikes();
        openLineAsks();
        openLineWithoutStrikes();
        openLineWhileSuspended();
        handlingOnIsNoTouch();
        pendingEnds();
        Due.end("BoundsOfLinesTest");
    }

    /** "if there is no such device"; "if it is there no more, or has no line". */
    private static void raiseThrows() {
        DriverMoor x = Worlds.with(1);
        for (int wrong : new int[] {-1, -2, 1, 24}) {
            Due.noDevice("20 " + wrong, () -> x.raise(wrong));
        }
        for (int wrong : Worlds.FAR) {
            Due.noDevice("20 " + wrong, () -> x.raise(wrong));
        }
        Due.badState("20 no line", () -> x.raise(0));
        Due.is("27 nor is it pending", x.isPending(0), false);
        Worlds.lined(x, 0, 7);
        x.open(1);
        x.unplug(1);
        Due.badState("20 a husk", () -> x.raise(1));
        Due.is("27 nor is it pending", x.isPending(1), false);
        Due.is("28 no strike by that", x.strikes(7), 0);
        x.suspend();
        Due.badState("20 no line, suspended", () -> x.raise(0));
    }

    /** "A device that is there can raise its line, if it has one: it is pending then." */
    private static void raisedByWhatIsThere() {
        DriverMoor x = Worlds.made();
        Worlds.lined(x, Worlds.UNKNOWN, 0);
        Worlds.lined(x, Worlds.LOSES, 7);
        Due.is("20 never bound, line 0", x.raise(0), 0);
        Due.is("27 pending", x.isPending(0), true);
        Due.is("20 bound and ON, line 7", x.raise(1), 1);
        Due.is("27 handled at once", x.isPending(1), false);
        x.pass(5);
        Due.is("20 asleep", x.raise(1), 0);
        Due.is("27 pending", x.isPending(1), true);
        x.unbind(1);
        Due.is("27 not if unbound", x.isPending(1), false);
        x.raise(1);
        Due.is("27 raised again", x.isPending(1), true);
    }

    /** "If the world is not suspended": no strike, and none handles. */
    private static void notAskedWhileSuspended() {
        DriverMoor x = Worlds.made();
        Worlds.lined(x, Worlds.SAVES, 0);
        x.suspend();
        for (int i = 0; i < 4; i++) {
            Due.is("20 none", x.raise(0), 0);
            Due.is("28 no strike", x.strikes(0), 0);
        }
        Due.is("27 pending", x.isPending(0), true);
        Due.is("26 nor woken", x.isOn(0), false);
        Due.is("33 no event", x.events(), 2);
    }

    /** "and the line is not shut": the device is pending all the same. */
    private static void notAskedIfShut() {
        DriverMoor x = Worlds.made();
        Worlds.lined(x, Worlds.SAVES, 0);
        Worlds.shut(x, 0);
        int before = x.events();
        Due.is("20 none, though it is ON", x.raise(0), 0);
        Due.is("27 pending", x.isPending(0), true);
        Due.is("28 no more strikes", x.strikes(0), 3);
        Due.is("33 no event", x.events(), before);
    }

    /** "bound devices that have it". */
    private static void boundOnesOfTheLineAlone() {
        DriverMoor x = Worlds.made();
        Worlds.lined(x, Worlds.LOSES, 0);
        Worlds.lined(x, Worlds.LOSES, 1);
        Worlds.lined(x, Worlds.LOSES, 0);
        Worlds.shut(x, 0);
        Worlds.shut(x, 1);
        x.unbind(2);
        for (int device = 0; device < 3; device++) {
            x.raise(device);
        }
        Due.is("21 the bound one of line 0", x.openLine(0), 1);
        Due.is("27 it", x.isPending(0), false);
        Due.is("27 not that of line 1", x.isPending(1), true);
        Due.is("27 not what is not bound", x.isPending(2), true);
    }

    /** "in the order in which they were bound". */
    private static void inTheOrderOfBinding() {
        DriverMoor x = Worlds.made();
        for (int i = 0; i < 4; i++) {
            Worlds.lined(x, Worlds.SAVES, 2);
        }
        x.unbind(1);
        x.bind(1);
        x.unbind(0);
        x.bind(0);
        x.pass(5);
        x.suspend();
        for (int i = 0; i < 4; i++) {
            x.raise(i);
        }
        int before = x.events();
        x.resume();
        Due.is("34 by binding, not by number", Events.from(x, before), "woken 2, woken 3, woken 1, woken 0");
    }

    /** "each that is pending, and ON or with a driver that saves (which wakes it), handles that". */
    private static void onOrSaving() {
        for (int kind = 0; kind < 8; kind++) {
            boolean isSaving = (kind & 1) != 0;
            boolean isOn = (kind & 2) != 0;
            boolean isPending = (kind & 4) != 0;
            DriverMoor x = Worlds.made();
            Worlds.lined(x, isSaving ? Worlds.SAVES : Worlds.LOSES, 0);
            Worlds.shut(x, 0);
            x.open(0);
            x.pass(5);
            if (isOn) {
                x.get(0);
            }
            if (isPending) {
                x.raise(0);
            }
            boolean isDue = isPending && (isOn || isSaving);
            Due.is("21 kind " + kind, x.openLine(0), isDue ? 1 : 0);
            Due.is("27 kind " + kind, x.isPending(0), isPending && !isDue);
            Due.is("26 kind " + kind, x.isOn(0), isOn || isDue);
        }
    }

    private static void savingByTheDriverItIsBoundTo() {
        DriverMoor x = Worlds.made();
        Worlds.lined(x, Worlds.LOSES, 0);
        Worlds.lined(x, Worlds.SAVES, 1);
        x.driver(1 << Worlds.LOSES, 9, 0, true);
        x.driver(1 << Worlds.SAVES, 9, 0, false);
        x.pass(5);
        Due.is("20 it is bound to one that loses", x.raise(0), 0);
        Due.is("20 it is bound to one that saves", x.raise(1), 1);
        x.unbind(0);
        x.bind(0);
        x.pass(5);
        Due.is("20 bound to the better one, which saves", x.raise(0), 1);
    }

    /** Who is woken because another needs it handles nothing by that. */
    private static void neededAndNotPending() {
        DriverMoor x = Worlds.made();
        Worlds.lined(x, Worlds.LOSES, 0);
        x.plug(0, Worlds.SAVES, 0, 0, true, NONE, NONE);
        x.pass(10);
        Due.is("20 the child alone", x.raise(1), 1);
        Due.is("26 its parent is woken", x.isOn(0), true);
        x.pass(10);
        x.raise(0);
        Due.is("20 its parent is pending, but its turn is over", x.raise(1), 1);
        Due.is("27 it stays so", x.isPending(0), true);
        Due.is("20 ON it handles, with the next that raises", x.raise(1), 2);
    }

    /** "Returns how many devices handle something by that." */
    private static void handledByAll() {
        DriverMoor x = Worlds.made();
        for (int i = 0; i < 20; i++) {
            Worlds.lined(x, i % 2, 0);
        }
        Worlds.shut(x, 0);
        for (int i = 0; i < 20; i++) {
            x.raise(i);
        }
        Due.is("21 all 20", x.openLine(0), 20);
        Due.is("21 once", x.openLine(0), 0);
        Due.is("20 one", x.raise(19), 1);
    }

    /** "If none did, that is a strike for the line". */
    private static void noneHandles() {
        DriverMoor x = Worlds.made();
        Worlds.lined(x, Worlds.LOSES, 0);
        int stranger = Worlds.lined(x, Worlds.UNKNOWN, 0);
        x.raise(stranger);
        Due.is("28 who is ON is not pending", x.strikes(0), 1);
        x.pass(5);
        x.raise(0);
        Due.is("28 who is pending is asleep", x.strikes(0), 2);
        Due.is("28 raised again by the same", x.raise(0) + x.strikes(0), 3);
    }

    /** "otherwise it has none any more". */
    private static void handledEndsStrikes() {
        for (int strikes = 0; strikes < 3; strikes++) {
            DriverMoor x = Worlds.made();
            Worlds.lined(x, Worlds.SAVES, 4);
            int stranger = Worlds.lined(x, Worlds.UNKNOWN, 4);
            for (int i = 0; i < strikes; i++) {
                x.raise(stranger);
            }
            Due.is("28 strikes", x.strikes(4), strikes);
            x.raise(0);
            Due.is("28 none any more", x.strikes(4), 0);
            x.raise(stranger);
            x.raise(stranger);
            Due.is("28 they are counted anew", x.strikes(4), 2);
            Due.is("20 and it is not shut", x.raise(0), 1);
        }
    }

    /** "with 3 strikes it is shut". */
    private static void thirdStrikeShuts() {
        DriverMoor x = Worlds.made();
        Worlds.lined(x, Worlds.UNKNOWN, 7);
        x.raise(0);
        x.raise(0);
        Due.is("28 two", x.strikes(7), 2);
        Due.is("33 no event yet", x.events(), 0);
        x.raise(0);
        Due.is("28 three", x.strikes(7), 3);
        Due.is("34 shut", Events.from(x, 0), "shut 7");
        Due.is("34 its kind", x.eventKind(0), DriverMoor.SHUT);
        Due.is("35 the line, not the device", x.eventOf(0), 7);
    }

    private static void shutOnceTillOpened() {
        DriverMoor x = Worlds.made();
        Worlds.shut(x, 0);
        x.raise(0);
        x.raise(0);
        Due.is("33 once", x.events(), 1);
        Due.is("28 3 if it is shut", x.strikes(0), 3);
        x.openLine(0);
        Worlds.shut(x, 0);
        Due.is("34 once for each time", Events.from(x, 0), "shut 0, shut 0");
    }

    private static void strikesOfEachLine() {
        DriverMoor x = Worlds.made();
        for (int line = 0; line < 8; line++) {
            Worlds.lined(x, Worlds.UNKNOWN, line);
            for (int i = 0; i < line % 4; i++) {
                x.raise(line);
            }
        }
        for (int line = 0; line < 8; line++) {
            Due.is("28 line " + line, x.strikes(line), line % 4);
        }
        x.openLine(6);
        for (int line = 0; line < 8; line++) {
            Due.is("21 line 6 alone: " + line, x.strikes(line), line == 6 ? 0 : line % 4);
        }
    }

    private static void strikesStayWithoutDevices() {
        DriverMoor x = Worlds.made();
        Worlds.shut(x, 3);
        x.unplug(0);
        Due.is("28 of no device any more", x.strikes(3), 3);
        Due.is("23 a shut line is free", x.reason(Worlds.lined(x, Worlds.LOSES, 3)), 0);
        Due.is("20 but not asked", x.raise(1), 0);
    }

    /** Promise 21: "line: 0 to 7"; "IndexOutOfBoundsException if there is no such line". */
    private static void openLineThrows() {
        DriverMoor x = Worlds.made();
        for (int wrong : new int[] {-1, -2, 8, 9}) {
            Due.noDevice("21 line " + wrong, () -> x.openLine(wrong));
        }
        for (int wrong : Worlds.FAR) {
            Due.noDevice("21 line " + wrong, () -> x.openLine(wrong));
        }
        for (int line = 0; line < 8; line++) {
            Due.is("21 line " + line, x.openLine(line), 0);
        }
    }

    /** "To open a line sets its strikes to 0": none, some, or shut. */
    private static void openLineSetsStrikes() {
        for (int strikes = 0; strikes <= 3; strikes++) {
            DriverMoor x = Worlds.made();
            Worlds.lined(x, Worlds.UNKNOWN, 5);
            for (int i = 0; i < strikes; i++) {
                x.raise(0);
            }
            int before = x.events();
            Due.is("21 none handles", x.openLine(5), 0);
            Due.is("28 0", x.strikes(5), 0);
            Due.is("33 to open is no event", x.events(), before);
            x.raise(0);
            Due.is("28 counted anew", x.strikes(5), 1);
        }
    }

    private static void openLineAsks() {
        DriverMoor x = Worlds.made();
        Worlds.lined(x, Worlds.LOSES, 0);
        Worlds.lined(x, Worlds.SAVES, 0);
        Worlds.lined(x, Worlds.LOSES, 0);
        Worlds.shut(x, 0);
        x.open(2);
        x.pass(5);
        x.get(0);
        for (int device = 0; device < 3; device++) {
            x.raise(device);
        }
        int before = x.events();
        Due.is("21 the one that saves, the one that is ON", x.openLine(0), 2);
        Due.is("34 the one is woken", Events.from(x, before), "woken 1");
        Due.is("27 the one that sleeps on is pending", x.isPending(0), true);
    }

    /** "and asks it without strikes". */
    private static void openLineWithoutStrikes() {
        DriverMoor x = Worlds.made();
        Worlds.lined(x, Worlds.LOSES, 0);
        x.pass(5);
        x.raise(0);
        for (int i = 0; i < 4; i++) {
            Due.is("21 none handles", x.openLine(0), 0);
            Due.is("28 no strike", x.strikes(0), 0);
        }
    }

    /** "if the world is not suspended". */
    private static void openLineWhileSuspended() {
        DriverMoor x = Worlds.made();
        Worlds.lined(x, Worlds.SAVES, 0);
        Worlds.shut(x, 0);
        x.raise(0);
        x.suspend();
        Due.is("21 not asked", x.openLine(0), 0);
        Due.is("28 but open", x.strikes(0), 0);
        Due.is("27 pending", x.isPending(0), true);
        x.resume();
        Due.is("27 asked then", x.isPending(0), false);
    }

    /** "Who is ON and handles is not touched by that." */
    private static void handlingOnIsNoTouch() {
        DriverMoor x = Worlds.made();
        Worlds.lined(x, Worlds.SAVES, 0);
        Worlds.lined(x, Worlds.LOSES, 1);
        x.pass(4);
        Due.is("20 handled", x.raise(0) + x.raise(1), 2);
        x.openLine(0);
        x.pass(1);
        Due.is("26 both were touched 5 ticks ago", x.isOn(0) || x.isOn(1), false);
    }

    /** "and is pending no more": by each of what ends it. */
    private static void pendingEnds() {
        DriverMoor x = Worlds.made();
        for (int i = 0; i < 4; i++) {
            Worlds.lined(x, Worlds.LOSES, i);
        }
        Worlds.lined(x, Worlds.UNKNOWN, 4);
        x.pass(5);
        for (int device = 0; device < 5; device++) {
            x.raise(device);
            Due.is("27 pending", x.isPending(device), true);
        }
        x.pass(50);
        x.get(x.open(0));
        Due.is("27 to be woken does not end it", x.isPending(0), true);
        x.reset(1);
        x.unbind(2);
        x.unplug(3);
        x.driver(1 << Worlds.UNKNOWN, 0, 0, false);
        x.raise(0);
        for (int device = 0; device < 5; device++) {
            Due.is("27 handled, reset, unbound, unplugged, bound", x.isPending(device), false);
        }
    }
}
