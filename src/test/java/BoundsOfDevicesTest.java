/**
 * The sentences of "Devices, drivers", and of promises 1 to 5, that name a bound: a test for each.
 */
public final class BoundsOfDevicesTest {
    private static final int NONE = DriverMoor.NONE;

    public static void main(String[] args) {
        nothingYet();
        theTickIsZero();
        numberedFromZeroAtMost24();
        atMost24EvenIfAllAreGone();
        parentIsTheRootOrThere();
        parentIsNoHusk();
        ids();
        sizes();
        lines();
        suppliersThere();
        suppliersNoHusks();
        suppliersDiffer();
        upToTwoSuppliers();
        theFirstListedOfSeveral();
        nothingIsPluggedByAThrow();
        unpluggedWithAllBelow();
        unpluggedAlone();
        unpluggedOnce();
        whatIsGoneIsNotCountedAgain();
        huskWithHandles();
        huskWithoutHandles();
        driversFromZeroAtMost8();
        emptyAndFullTables();
        eachBitOfATable();
        ranks();
        firmwareNeeded();
        versions();
        versionZeroAtFirst();
        atLeastWhatIsNeeded();
        noSuchDriver();
        Due.end("BoundsOfDevicesTest");
    }

    /** "No devices and drivers; the tick 0." */
    private static void nothingYet() {
        DriverMoor x = new DriverMoor();
        Due.noDevice("1 no devices", () -> x.isThere(0));
        Due.noDevice("1 no drivers", () -> x.load(0, 0));
        Due.noDevice("1 no handles", () -> x.get(0));
        Due.noDevice("1 no calls", () -> x.callState(0));
        Due.noDevice("1 no events", () -> x.eventKind(0));
        Due.is("1 nothing happened", x.events() + x.faults(), 0);
        Due.is("1 nothing is given", x.given(0) + x.given(1) + x.given(2) + x.given(3), 0);
        Due.is("1 none asleep, none refuses", x.suspend(), NONE);
        Due.is("1 none is woken", x.resume(), 0);
    }

    private static void theTickIsZero() {
        Due.is("1 the tick 0, and one more", new DriverMoor().pass(1), 1);
        Due.is("1 the tick 0, and fifty more", new DriverMoor().pass(50), 50);
    }

    /** "Devices are numbered from 0, at most 24 ever." */
    private static void numberedFromZeroAtMost24() {
        DriverMoor x = Worlds.made();
        for (int i = 0; i < 24; i++) {
            int next = i;
            Due.noDevice("2 not yet", () -> x.isThere(next));
            Due.is("2 from 0 on", Worlds.under(x, NONE), i);
        }
        Due.badState("2 the 25th", () -> Worlds.under(x, NONE));
        Due.noDevice("2 was not plugged in", () -> x.isThere(24));
        Due.is("2 nor bound", x.given(3), 24);
    }

    private static void atMost24EvenIfAllAreGone() {
        DriverMoor x = Worlds.made();
        for (int i = 0; i < 24; i++) {
            Due.is("2 numbers are not used again", Worlds.under(x, NONE), i);
            x.unplug(i);
        }
        Due.badState("2 24 ever, though none is there", () -> Worlds.under(x, NONE));
    }

    /** "A device is plugged into the ROOT or into another device that is there". */
    private static void parentIsTheRootOrThere() {
        DriverMoor x = Worlds.with(2);
        Due.noDevice("2 not into itself", () -> Worlds.under(x, 2));
        Due.noDevice("2 less than NONE", () -> Worlds.under(x, -2));
        Due.noDevice("2 the greatest number ever", () -> Worlds.under(x, 23));
        Due.noDevice("2 more than there ever are", () -> Worlds.under(x, 24));
        for (int wrong : Worlds.FAR) {
            Due.noDevice("2 far off", () -> Worlds.under(x, wrong));
        }
        Due.is("2 into the ROOT", x.reason(Worlds.under(x, NONE)), 0);
        Due.is("2 into the first", x.reason(Worlds.under(x, 0)), 0);
        Due.is("2 into the last", x.reason(Worlds.under(x, 3)), 0);
        int strange = Worlds.ofId(x, Worlds.UNKNOWN);
        Due.is("2 into one that is not bound", x.reason(Worlds.under(x, strange)), 2);
    }

    /** "IndexOutOfBoundsException if there is no such device, of any, also one that is there no more". */
    private static void parentIsNoHusk() {
        DriverMoor x = Worlds.with(2);
        x.open(1);
        x.unplug(0);
        x.unplug(1);
        Due.noDevice("2 one that is gone", () -> Worlds.under(x, 0));
        Due.noDevice("2 a husk with a handle", () -> Worlds.under(x, 1));
    }

    /** "id: 0 to 31". */
    private static void ids() {
        DriverMoor x = Worlds.made();
        for (int wrong : new int[] {-1, 32}) {
            Due.badArgument("2 id " + wrong, () -> Worlds.ofId(x, wrong));
        }
        for (int wrong : Worlds.FAR) {
            Due.badArgument("2 id " + wrong, () -> Worlds.ofId(x, wrong));
        }
        Due.is("2 id 0", x.driverOf(Worlds.ofId(x, 0)), 0);
        Due.is("2 id 31", x.driverOf(Worlds.ofId(x, 31)), NONE);
    }

    /** "a window size, 0, 1, 2, 4 or 8". */
    private static void sizes() {
        DriverMoor x = Worlds.made();
        for (int size : new int[] {-8, -4, -2, -1, 3, 5, 6, 7, 9, 10, 12, 16, 32, 64}) {
            Due.badArgument("2 size " + size, () -> Worlds.sized(x, NONE, size));
        }
        for (int wrong : Worlds.FAR) {
            Due.badArgument("2 size " + wrong, () -> Worlds.sized(x, NONE, wrong));
        }
        int places = 0;
        for (int size : new int[] {0, 1, 2, 4, 8}) {
            places += size;
            Worlds.sized(x, NONE, size);
            Due.is("2 size " + size, x.given(0), places);
        }
    }

    /** "a line, 0 to 7 or none". */
    private static void lines() {
        DriverMoor x = Worlds.made();
        for (int line : new int[] {-2, 8}) {
            Due.badArgument("2 line " + line, () -> Worlds.lined(x, 0, line));
        }
        for (int wrong : Worlds.FAR) {
            Due.badArgument("2 line " + wrong, () -> Worlds.lined(x, 0, wrong));
        }
        Worlds.lined(x, 0, NONE);
        Due.is("2 none", x.given(1), 0);
        for (int line = 0; line < 8; line++) {
            Worlds.lined(x, 0, line);
            Due.is("2 line " + line, x.given(1), line + 1);
        }
    }

    /** "up to two suppliers, devices that are there". */
    private static void suppliersThere() {
        DriverMoor x = Worlds.with(2);
        for (int wrong : new int[] {-2, 2, 23, 24}) {
            Due.noDevice("2 first " + wrong, () -> Worlds.needing(x, NONE, wrong, NONE));
            Due.noDevice("2 second " + wrong, () -> Worlds.needing(x, NONE, NONE, wrong));
        }
        for (int wrong : Worlds.FAR) {
            Due.noDevice("2 first " + wrong, () -> Worlds.needing(x, NONE, wrong, 1));
            Due.noDevice("2 second " + wrong, () -> Worlds.needing(x, NONE, 0, wrong));
        }
        int strange = Worlds.ofId(x, Worlds.UNKNOWN);
        Due.is("2 one that is not bound", x.reason(Worlds.needing(x, NONE, strange, NONE)), 3);
    }

    private static void suppliersNoHusks() {
        DriverMoor x = Worlds.with(2);
        x.open(0);
        x.unplug(0);
        Due.noDevice("2 a husk first", () -> Worlds.needing(x, NONE, 0, NONE));
        Due.noDevice("2 a husk second", () -> Worlds.needing(x, NONE, 1, 0));
        Due.noDevice("2 a husk twice is no such device", () -> Worlds.needing(x, NONE, 0, 0));
    }

    /** "IllegalArgumentException if ... both suppliers are the same device". */
    private static void suppliersDiffer() {
        DriverMoor x = Worlds.with(2);
        Due.badArgument("2 both the first device", () -> Worlds.needing(x, NONE, 0, 0));
        Due.badArgument("2 both the last device", () -> Worlds.needing(x, NONE, 1, 1));
        Due.is("2 NONE twice is none", x.reason(Worlds.needing(x, NONE, NONE, NONE)), 0);
        Due.is("2 two that differ", x.reason(Worlds.needing(x, NONE, 0, 1)), 0);
        Due.is("2 one is the parent", x.reason(Worlds.needing(x, 0, 0, 1)), 0);
    }

    private static void upToTwoSuppliers() {
        for (int given = 0; given < 4; given++) {
            DriverMoor x = Worlds.with(2);
            int first = (given & 1) == 0 ? NONE : 0;
            int second = (given & 2) == 0 ? NONE : 1;
            Worlds.needing(x, NONE, first, second);
            Due.is("2 what the first supplies", x.unbind(0), first == NONE ? 1 : 2);
            x.bind(0);
            Due.is("2 what the second supplies", x.unbind(1), second == NONE ? 1 : 2);
        }
    }

    /** "If several exceptions of a throws clause apply, the one that is listed first is thrown." */
    private static void theFirstListedOfSeveral() {
        DriverMoor x = Worlds.with(2);
        Due.noDevice("2 a parent ahead of an id", () -> x.plug(2, 32, 0, NONE, false, NONE, NONE));
        Due.noDevice("2 the first supplier ahead of a size", () -> x.plug(NONE, 0, 3, NONE, false, 2, NONE));
        Due.noDevice("2 the second supplier ahead of a line", () -> x.plug(NONE, 0, 0, 8, false, NONE, 2));
        for (int i = 2; i < 24; i++) {
            Worlds.under(x, NONE);
        }
        Due.noDevice("2 no such device ahead of 24", () -> x.plug(NONE, 0, 0, NONE, false, NONE, 24));
        Due.badArgument("2 an id ahead of 24", () -> x.plug(NONE, 32, 0, NONE, false, NONE, NONE));
        Due.badArgument("2 a size ahead of 24", () -> x.plug(NONE, 0, 3, NONE, false, NONE, NONE));
        Due.badArgument("2 a line ahead of 24", () -> x.plug(NONE, 0, 0, 8, false, NONE, NONE));
        Due.badArgument("2 the same supplier ahead of 24", () -> x.plug(NONE, 0, 0, NONE, false, 1, 1));
        for (int i = 2; i < 8; i++) {
            x.driver(0, 0, 0, false);
        }
        Due.badArgument("4 a rank ahead of 8", () -> x.driver(1, 10, 0, false));
        Due.badArgument("4 firmware ahead of 8", () -> x.driver(1, 0, 10, false));
        Due.noDevice("5 no such driver ahead of a version", () -> x.load(8, 10));
    }

    private static void nothingIsPluggedByAThrow() {
        DriverMoor x = Worlds.with(1);
        Due.noDevice("2 refused", () -> Worlds.under(x, 5));
        Due.badArgument("2 refused", () -> Worlds.sized(x, 0, 3));
        Due.noDevice("2 no number was used", () -> x.isThere(1));
        Due.is("2 the next number", Worlds.under(x, NONE), 1);
    }

    /** "It is there until it is unplugged; with it all that is below it is unplugged." */
    private static void unpluggedWithAllBelow() {
        DriverMoor x = Worlds.made();
        for (int i = 0; i < 24; i++) {
            Worlds.under(x, i - 1);
        }
        Due.is("3 the lowest of a chain", x.unplug(23), 1);
        Due.is("3 from the middle on", x.unplug(11), 12);
        Due.is("3 above that all are there", x.isThere(10), true);
        Due.is("3 below that none", x.isThere(11) || x.isThere(22), false);
        Due.is("3 the rest", x.unplug(0), 11);
        Due.is("3 none is there", x.isThere(0) || x.isThere(10), false);
        Due.is("3 none is bound", x.given(3), 0);
    }

    private static void unpluggedAlone() {
        DriverMoor x = Worlds.with(3);
        Worlds.needing(x, 1, 0, NONE);
        Worlds.under(x, 2);
        Due.is("3 not what it supplies, nor what is beside it", x.unplug(0), 1);
        Due.is("3 they are there", x.isThere(1) && x.isThere(2) && x.isThere(3) && x.isThere(4), true);
        Due.is("3 what it supplied waits for ever", x.reason(3), 3);
        int strange = Worlds.ofId(x, Worlds.UNKNOWN);
        Due.is("3 one that was never bound", x.unplug(strange), 1);
    }

    /** "IndexOutOfBoundsException if there is no such device; IllegalStateException if it is there no more". */
    private static void unpluggedOnce() {
        DriverMoor x = Worlds.with(1);
        Worlds.under(x, 0);
        for (int wrong : new int[] {-1, -2, 2, 24}) {
            Due.noDevice("3 " + wrong, () -> x.unplug(wrong));
        }
        for (int wrong : Worlds.FAR) {
            Due.noDevice("3 " + wrong, () -> x.unplug(wrong));
        }
        x.unplug(0);
        Due.badState("3 gone", () -> x.unplug(0));
        Due.badState("3 gone with its parent", () -> x.unplug(1));
    }

    private static void whatIsGoneIsNotCountedAgain() {
        DriverMoor x = Worlds.with(1);
        Worlds.under(x, 0);
        Worlds.under(x, 0);
        x.unplug(1);
        int before = x.events();
        Due.is("3 only those that were there", x.unplug(0), 2);
        Due.is("3 nor is it told again", Events.from(x, before), "unbound 2, unbound 0, unplugged 2, unplugged 0");
    }

    /** "A device that was unplugged stays as a husk, as long as handles of it are open." */
    private static void huskWithHandles() {
        DriverMoor x = Worlds.with(1);
        x.open(0);
        x.open(0);
        x.unplug(0);
        Due.is("3 both are open", x.handles(0), 2);
        Due.is("3 dead", x.close(0), true);
        Due.is("3 one is open", x.handles(0), 1);
        Due.badState("3 of no use", () -> x.get(1));
        Due.is("3 dead", x.close(1), true);
        Due.is("3 none is open", x.handles(0), 0);
    }

    /** "a device that was unplugged is there no more, but can be asked for". */
    private static void huskWithoutHandles() {
        DriverMoor x = Worlds.with(1);
        x.open(0);
        x.unplug(0);
        x.close(0);
        Due.is("22 there no more", x.isThere(0), false);
        Due.is("23 there no more", x.reason(0), 8);
        Due.is("24 no driver", x.driverOf(0), NONE);
        Due.is("25 no window", x.window(0), NONE);
        Due.is("26 27 neither ON nor pending", x.isOn(0) || x.isPending(0), false);
        Due.is("29 no handles", x.handles(0), 0);
        Due.badState("6 not bound", () -> x.unbind(0));
        Due.badState("7 not by hand", () -> x.bind(0));
        Due.badState("8 not bound", () -> x.reset(0));
        Due.badState("9 not bound", () -> x.open(0));
        Due.badState("16 there no more", () -> x.access(0, 0));
        Due.badState("20 there no more", () -> x.raise(0));
    }

    /** "Drivers are numbered from 0, at most 8." */
    private static void driversFromZeroAtMost8() {
        DriverMoor x = new DriverMoor();
        for (int i = 0; i < 8; i++) {
            int next = i;
            Due.noDevice("5 not yet", () -> x.load(next, 0));
            Due.is("4 from 0 on", x.driver(1 << i, 0, 0, false), i);
        }
        Due.badState("4 the ninth", () -> x.driver(1 << 8, 0, 0, false));
        Due.noDevice("4 was not added", () -> x.load(8, 0));
        Due.is("4 the eighth counts", x.driverOf(Worlds.ofId(x, 7)), 7);
        Due.is("4 the ninth does not", x.driverOf(Worlds.ofId(x, 8)), NONE);
    }

    /** "table: the ids: the bit k for the id k": none of them, all of them. */
    private static void emptyAndFullTables() {
        DriverMoor x = new DriverMoor();
        x.driver(0, 9, 0, false);
        Due.is("4 an empty table, the first id", x.reason(Worlds.ofId(x, 0)), 1);
        Due.is("4 an empty table, the last id", x.reason(Worlds.ofId(x, 31)), 1);
        x.driver(-1, 0, 0, false);
        Due.is("4 a full table, the first id", x.driverOf(0), 1);
        Due.is("4 a full table, the last id", x.driverOf(1), 1);
    }

    private static void eachBitOfATable() {
        for (int id = 0; id < 32; id++) {
            DriverMoor x = new DriverMoor();
            x.driver(1 << id, 0, 0, false);
            x.driver(~(1 << id), 0, 0, false);
            Due.is("4 the bit " + id, x.driverOf(Worlds.ofId(x, id)), 0);
            Due.is("4 the bit above " + id, x.driverOf(Worlds.ofId(x, (id + 1) % 32)), 1);
            Due.is("4 the bit below " + id, x.driverOf(Worlds.ofId(x, (id + 31) % 32)), 1);
        }
    }

    /** "rank: 0 to 9": and the greatest one counts. */
    private static void ranks() {
        DriverMoor x = new DriverMoor();
        for (int wrong : new int[] {-1, 10}) {
            Due.badArgument("4 rank " + wrong, () -> x.driver(1, wrong, 0, false));
        }
        for (int wrong : Worlds.FAR) {
            Due.badArgument("4 rank " + wrong, () -> x.driver(1, wrong, 0, false));
        }
        x.driver(1, 0, 9, false);
        x.driver(1, 9, 9, false);
        x.driver(1, 8, 9, false);
        x.driver(1, 9, 9, false);
        Due.is("4 rank 9 ahead of 0 and 8, the lower of two", x.driverOf(Worlds.ofId(x, 0)), 1);
        DriverMoor y = new DriverMoor();
        y.driver(1, 0, 0, false);
        y.driver(1, 0, 0, false);
        Due.is("4 rank 0 is a rank, the lower of two", y.driverOf(Worlds.ofId(y, 0)), 0);
    }

    /** "firmware: 0 to 9". */
    private static void firmwareNeeded() {
        DriverMoor x = new DriverMoor();
        for (int wrong : new int[] {-1, 10}) {
            Due.badArgument("4 firmware " + wrong, () -> x.driver(1, 0, wrong, false));
        }
        for (int wrong : Worlds.FAR) {
            Due.badArgument("4 firmware " + wrong, () -> x.driver(1, 0, wrong, false));
        }
        x.driver(1, 0, 0, false);
        Due.is("4 firmware 0 is loaded from the start", x.reason(Worlds.ofId(x, 0)), 0);
        x.driver(2, 0, 9, false);
        int high = Worlds.ofId(x, 1);
        x.load(1, 8);
        Due.is("4 8 is less than 9", x.reason(high), 4);
        x.load(1, 9);
        Due.is("4 9 is not", x.reason(high), 0);
    }

    /** "version: 0 to 9". */
    private static void versions() {
        DriverMoor x = Worlds.made();
        for (int wrong : new int[] {-1, 10}) {
            Due.badArgument("5 version " + wrong, () -> x.load(1, wrong));
        }
        for (int wrong : Worlds.FAR) {
            Due.badArgument("5 version " + wrong, () -> x.load(1, wrong));
        }
        Due.is("5 nothing was loaded by that", x.load(1, 9), 0);
        Due.is("5 the greatest", x.load(1, 0), 9);
        Due.is("5 the least", x.load(1, 1), 0);
        Due.is("5 of another driver", x.load(0, 0), 0);
    }

    /** "Firmware of a driver is loaded as a version, 0 at first." */
    private static void versionZeroAtFirst() {
        DriverMoor x = new DriverMoor();
        x.driver(1, 0, 1, false);
        Due.is("5 less than 1", x.reason(Worlds.ofId(x, 0)), 4);
        Due.is("5 0 at first", x.load(0, 0), 0);
        Due.is("5 it is still less", x.reason(0), 4);
        Due.is("5 0 again", x.load(0, 1), 0);
        Due.is("5 not less", x.reason(0), 0);
    }

    /** "4 the firmware that is loaded for its driver is less than that needs": for each it needs. */
    private static void atLeastWhatIsNeeded() {
        for (int needed = 1; needed <= 9; needed++) {
            DriverMoor x = new DriverMoor();
            x.driver(1, 0, needed, false);
            Worlds.ofId(x, 0);
            x.load(0, needed - 1);
            Due.is("5 one less", x.reason(0), 4);
            x.load(0, needed);
            Due.is("5 just that", x.reason(0), 0);
            x.load(0, needed - 1);
            Due.is("5 what is bound stays so", x.reason(0), 0);
            x.unbind(0);
            Due.is("5 but is not bound again", x.bind(0), 4);
        }
    }

    /** "IndexOutOfBoundsException if there is no such driver". */
    private static void noSuchDriver() {
        DriverMoor x = Worlds.made();
        for (int wrong : new int[] {-1, 2, 7, 8}) {
            Due.noDevice("5 driver " + wrong, () -> x.load(wrong, 0));
        }
        for (int wrong : Worlds.FAR) {
            Due.noDevice("5 driver " + wrong, () -> x.load(wrong, 0));
            Due.noDevice("5 no driver ahead of a wrong version", () -> x.load(wrong, wrong));
        }
    }
}
