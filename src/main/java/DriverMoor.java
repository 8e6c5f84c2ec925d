import java.util.ArrayList;

/** Devices on buses and their drivers; ../shared/DOC.md says what each call promises. */
public final class DriverMoor {
    public static final int NONE = -1;
    public static final int GOING = 0, FINISHED = 1, ABORTED = 2;
    public static final int BOUND = 0, UNBOUND = 1, UNPLUGGED = 2, SLEPT = 3, WOKEN = 4, SHUT = 5;

    private static final int MOST_DEVICES = 24;
    private static final int MOST_DRIVERS = 8;
    private static final int MOST_HANDLES = 40;
    private static final int MOST_CALLS = 100;
    private static final int SLOTS = 16;
    private static final int LINES = 8;
    private static final int PLACES = 64;
    private static final int STRIKES_THAT_SHUT = 3;
    private static final int TICKS_TILL_SLEEP = 5;

    private static final int NOT_REFUSED = 0;
    private static final int NO_DRIVER = 1;
    private static final int PARENT_NOT_BOUND = 2;
    private static final int SUPPLIER_NOT_BOUND = 3;
    private static final int FIRMWARE_TOO_OLD = 4;
    private static final int NO_ROOM = 5;
    private static final int LINE_NOT_FREE = 6;
    private static final int UNBOUND_BY_HAND = 7;
    private static final int THERE_NO_MORE = 8;

    private static final int GIVEN_PLACES = 0;
    private static final int GIVEN_LINES = 1;
    private static final int GIVEN_SLOTS = 2;
    private static final int GIVEN_DEVICES = 3;

    private final ArrayList<Device> devices = new ArrayList<>();
    /** The bound devices in the order in which they were bound: needs stand ahead of what needs them. */
    private final ArrayList<Device> bound = new ArrayList<>();
    private final ArrayList<Driver> drivers = new ArrayList<>();
    private final ArrayList<Handle> opened = new ArrayList<>();
    private final ArrayList<Call> made = new ArrayList<>();
    private final ArrayList<Slot> slots = new ArrayList<>();
    private final int[] lineStrikes = new int[LINES];
    private final EventLog log = new EventLog();
    private int tick;
    private boolean isSuspended;
    private int faultCount;

    public DriverMoor() {
        for (int i = 0; i < SLOTS; i++) {
            slots.add(new Slot());
        }
    }

    // ---- devices, drivers

    public int plug(int parent, int id, int size, int line, boolean isShared, int first, int second)
            throws IndexOutOfBoundsException, IllegalArgumentException, IllegalStateException {
        Device above = presentOrNone(parent);
        Device supplierOne = presentOrNone(first);
        Device supplierTwo = presentOrNone(second);
        if (!isWithin(id, 0, 31) || !isSize(size) || !isWithin(line, NONE, LINES - 1)) {
            throw new IllegalArgumentException("id, size or line is out of range");
        }
        if (supplierOne != null && supplierOne == supplierTwo) {
            throw new IllegalArgumentException("both suppliers are the same device");
        }
        if (devices.size() >= MOST_DEVICES) {
            throw new IllegalStateException("there were 24 devices");
        }
        Device plugged = new Device(devices.size(), id, size, line, isShared);
        plugged.parent = above;
        plugged.first = supplierOne;
        plugged.second = supplierTwo;
        devices.add(plugged);
        bindWhatCanBe();
        return plugged.number;
    }

    public int unplug(int device) throws IndexOutOfBoundsException, IllegalStateException {
        Device top = known(device);
        if (!top.isThere) {
            throw new IllegalStateException("the device is there no more");
        }
        for (int i = 0; i < bound.size(); i++) {
            Device each = bound.get(i);
            each.isLeaving = each.isAtOrBelow(top);
        }
        unbindTheLeaving();
        int gone = takeAway(top);
        bindWhatCanBe();
        return gone;
    }

    public int driver(int table, int rank, int firmware, boolean saves)
            throws IllegalArgumentException, IllegalStateException {
        if (!isWithin(rank, 0, 9) || !isWithin(firmware, 0, 9)) {
            throw new IllegalArgumentException("rank or firmware is out of range");
        }
        if (drivers.size() >= MOST_DRIVERS) {
            throw new IllegalStateException("there are 8 drivers");
        }
        Driver added = new Driver(drivers.size(), table, rank, firmware, saves);
        drivers.add(added);
        bindWhatCanBe();
        return added.number;
    }

    public int load(int driver, int version) throws IndexOutOfBoundsException, IllegalArgumentException {
        if (driver < 0 || driver >= drivers.size()) {
            throw new IndexOutOfBoundsException("there is no such driver");
        }
        if (!isWithin(version, 0, 9)) {
            throw new IllegalArgumentException("the version is out of range");
        }
        Driver loaded = drivers.get(driver);
        int before = loaded.version;
        loaded.version = version;
        bindWhatCanBe();
        return before;
    }

    public int unbind(int device) throws IndexOutOfBoundsException, IllegalStateException {
        Device asked = known(device);
        if (!asked.isBound()) {
            throw new IllegalStateException("the device is not bound");
        }
        asked.isByHand = true;
        asked.isLeaving = true;
        int left = unbindTheLeaving();
        bindWhatCanBe();
        return left;
    }

    public int bind(int device) throws IndexOutOfBoundsException, IllegalStateException {
        Device asked = known(device);
        if (!asked.isThere || !asked.isByHand) {
            throw new IllegalStateException("the device was not unbound by hand, or is there no more");
        }
        asked.isByHand = false;
        bindWhatCanBe();
        return asked.isBound() ? NOT_REFUSED : refusalOf(asked);
    }

    public int reset(int device) throws IndexOutOfBoundsException, IllegalStateException {
        Device asked = known(device);
        if (!asked.isBound() || isSuspended) {
            throw new IllegalStateException("the device is not bound, or the world is suspended");
        }
        int ended = abortCallsOf(asked);
        letMapsGo(asked);
        asked.register = 0;
        asked.isPending = false;
        return ended;
    }

    // ---- handles

    public int open(int device) throws IndexOutOfBoundsException, IllegalStateException {
        Device asked = known(device);
        if (!asked.isBound() || isSuspended || opened.size() >= MOST_HANDLES) {
            throw new IllegalStateException("the device is not bound, the world is suspended, or there were 40");
        }
        int number = opened.size();
        opened.add(new Handle(asked));
        return number;
    }

    public boolean close(int handle) throws IndexOutOfBoundsException, IllegalStateException {
        Handle asked = knownHandle(handle);
        if (!asked.isOpen) {
            throw new IllegalStateException("the handle is closed");
        }
        asked.isOpen = false;
        for (int i = 0; i < made.size(); i++) {
            Call each = made.get(i);
            if (each.handle == asked) {
                each.abortIfGoing();
            }
        }
        return asked.isDead;
    }

    public int call(int handle, int ticks)
            throws IndexOutOfBoundsException, IllegalArgumentException, IllegalStateException {
        Handle asked = knownHandle(handle);
        if (!isWithin(ticks, 1, 20)) {
            throw new IllegalArgumentException("ticks is out of range");
        }
        if (!canUse(asked) || made.size() >= MOST_CALLS) {
            throw new IllegalStateException("the handle is of no use, the world is suspended, or there were 100");
        }
        wakeForUse(asked.device);
        int number = made.size();
        made.add(new Call(asked, tick + ticks));
        return number;
    }

    public int set(int handle, int value)
            throws IndexOutOfBoundsException, IllegalArgumentException, IllegalStateException {
        Handle asked = knownHandle(handle);
        if (!isWithin(value, 0, 99)) {
            throw new IllegalArgumentException("the value is out of range");
        }
        if (!canUse(asked)) {
            throw new IllegalStateException("the handle is closed or dead, or the world is suspended");
        }
        wakeForUse(asked.device);
        int before = asked.device.register;
        asked.device.register = value;
        return before;
    }

    public int get(int handle) throws IndexOutOfBoundsException, IllegalStateException {
        Handle asked = knownHandle(handle);
        if (!canUse(asked)) {
            throw new IllegalStateException("the handle is closed or dead, or the world is suspended");
        }
        wakeForUse(asked.device);
        return asked.device.register;
    }

    public int map(int handle, int page)
            throws IndexOutOfBoundsException, IllegalArgumentException, IllegalStateException {
        Handle asked = knownHandle(handle);
        if (!isWithin(page, 0, 31)) {
            throw new IllegalArgumentException("the page is out of range");
        }
        int free = lowestFreeSlot();
        if (!canUse(asked) || free == NONE) {
            throw new IllegalStateException("the handle is of no use, the world is suspended, or no slot is free");
        }
        Slot taken = knownSlot(free);
        taken.owner = asked.device;
        taken.page = page;
        return free;
    }

    public int unmap(int handle, int slot) throws IndexOutOfBoundsException, IllegalStateException {
        Handle asked = knownHandle(handle);
        Slot mapped = knownSlot(slot);
        if (!asked.isAlive() || mapped.owner != asked.device) {
            throw new IllegalStateException("the handle is closed or dead, or the slot is not of its device");
        }
        mapped.owner = null;
        return mapped.page;
    }

    public int access(int device, int slot) throws IndexOutOfBoundsException, IllegalStateException {
        Device asked = known(device);
        Slot reached = knownSlot(slot);
        if (!asked.isThere) {
            throw new IllegalStateException("the device is there no more");
        }
        if (!asked.isAwake || reached.owner != asked) {
            faultCount++;
            return NONE;
        }
        return reached.page;
    }

    // ---- ticks, sleep, lines

    public int pass(int ticks) throws IllegalArgumentException, IllegalStateException {
        if (!isWithin(ticks, 1, 50)) {
            throw new IllegalArgumentException("ticks is out of range");
        }
        if (isSuspended) {
            throw new IllegalStateException("the world is suspended");
        }
        for (int i = 0; i < ticks; i++) {
            tick++;
            finishCalls();
            touchTheHeld();
            putIdleToSleep();
        }
        return tick;
    }

    public int suspend() throws IllegalStateException {
        if (isSuspended) {
            throw new IllegalStateException("the world is suspended");
        }
        for (int i = bound.size() - 1; i >= 0; i--) {
            Device each = bound.get(i);
            if (each.isAwake && hasCallGoing(each)) {
                wakeTheSuspended();
                return each.number;
            }
            if (each.isAwake) {
                fallAsleep(each);
                each.fellBySuspend = true;
            }
        }
        isSuspended = true;
        return NONE;
    }

    public int resume() throws IllegalStateException {
        if (!isSuspended) {
            throw new IllegalStateException("the world is not suspended");
        }
        isSuspended = false;
        int woken = wakeTheSuspended();
        for (int line = 0; line < LINES; line++) {
            if (!isShut(line)) {
                ask(line);
            }
        }
        bindWhatCanBe();
        return woken;
    }

    public int raise(int device) throws IndexOutOfBoundsException, IllegalStateException {
        Device asked = known(device);
        if (!asked.isThere || asked.line == NONE) {
            throw new IllegalStateException("the device is there no more, or has no line");
        }
        asked.isPending = true;
        if (isSuspended || isShut(asked.line)) {
            return 0;
        }
        int handled = ask(asked.line);
        countStrike(asked.line, handled > 0);
        return handled;
    }

    public int openLine(int line) throws IndexOutOfBoundsException {
        checkLine(line);
        lineStrikes[line] = 0;
        return isSuspended ? 0 : ask(line);
    }

    // ---- what is asked

    public boolean isThere(int device) throws IndexOutOfBoundsException {
        return known(device).isThere;
    }

    public int reason(int device) throws IndexOutOfBoundsException {
        Device asked = known(device);
        if (!asked.isThere) {
            return THERE_NO_MORE;
        }
        if (asked.isBound()) {
            return NOT_REFUSED;
        }
        int refusal = refusalOf(asked);
        return refusal == NOT_REFUSED ? NONE : refusal;
    }

    public int driverOf(int device) throws IndexOutOfBoundsException {
        Device asked = known(device);
        if (!asked.isThere) {
            return NONE;
        }
        // what is bound keeps its driver, though a better one may have come since
        Driver found = asked.isBound() ? asked.driver : bestDriver(asked.id);
        return found == null ? NONE : found.number;
    }

    public int window(int device) throws IndexOutOfBoundsException {
        return known(device).begin;
    }

    public boolean isOn(int device) throws IndexOutOfBoundsException {
        return known(device).isAwake;
    }

    public boolean isPending(int device) throws IndexOutOfBoundsException {
        return known(device).isPending;
    }

    public int strikes(int line) throws IndexOutOfBoundsException {
        checkLine(line);
        return lineStrikes[line];
    }

    public int handles(int device) throws IndexOutOfBoundsException {
        Device asked = known(device);
        int count = 0;
        for (int i = 0; i < opened.size(); i++) {
            Handle each = opened.get(i);
            if (each.isOpen && each.device == asked) {
                count++;
            }
        }
        return count;
    }

    public int callState(int call) throws IndexOutOfBoundsException {
        if (call < 0 || call >= made.size()) {
            throw new IndexOutOfBoundsException("there is no such call");
        }
        return made.get(call).state;
    }

    public int faults() {
        return faultCount;
    }

    public int given(int what) throws IllegalArgumentException {
        switch (what) {
            case GIVEN_PLACES:
                return countPlaces();
            case GIVEN_LINES:
                return countLines();
            case GIVEN_SLOTS:
                return countSlots();
            case GIVEN_DEVICES:
                return bound.size();
            default:
                throw new IllegalArgumentException("what is out of range");
        }
    }

    public int events() {
        return log.count;
    }

    public int eventKind(int event) throws IndexOutOfBoundsException {
        if (!log.keeps(event)) {
            throw new IndexOutOfBoundsException("there is no such event, or it is not kept any more");
        }
        return log.kindAt(event);
    }

    public int eventOf(int event) throws IndexOutOfBoundsException {
        if (!log.keeps(event)) {
            throw new IndexOutOfBoundsException("there is no such event, or it is not kept any more");
        }
        return log.subjectAt(event);
    }

    // ---- arguments

    private static boolean isWithin(int value, int least, int most) {
        return value >= least && value <= most;
    }

    private static boolean isSize(int size) {
        return size == 0 || size == 1 || size == 2 || size == 4 || size == 8;
    }

    private static void checkLine(int line) {
        if (line < 0 || line >= LINES) {
            throw new IndexOutOfBoundsException("there is no such line");
        }
    }

    private Device known(int device) {
        if (device < 0 || device >= devices.size()) {
            throw new IndexOutOfBoundsException("there is no such device");
        }
        return devices.get(device);
    }

    /** What plug may name: NONE is null here, a husk is as good as no device. */
    private Device presentOrNone(int device) {
        if (device == NONE) {
            return null;
        }
        Device named = known(device);
        if (!named.isThere) {
            throw new IndexOutOfBoundsException("the device is there no more");
        }
        return named;
    }

    private Handle knownHandle(int handle) {
        if (handle < 0 || handle >= opened.size()) {
            throw new IndexOutOfBoundsException("there is no such handle");
        }
        return opened.get(handle);
    }

    private Slot knownSlot(int slot) {
        if (slot < 0 || slot >= slots.size()) {
            throw new IndexOutOfBoundsException("there is no such slot");
        }
        return slots.get(slot);
    }

    private boolean canUse(Handle handle) {
        return handle.isAlive() && !isSuspended;
    }

    // ---- binding

    private void bindWhatCanBe() {
        // a round binds one device, so there are no more rounds than devices
        for (int round = 0; round < MOST_DEVICES && !isSuspended; round++) {
            Device next = lowestNotRefused();
            if (next == null) {
                return;
            }
            attach(next);
        }
    }

    private Device lowestNotRefused() {
        for (int i = 0; i < devices.size(); i++) {
            Device each = devices.get(i);
            if (each.isThere && !each.isBound() && refusalOf(each) == NOT_REFUSED) {
                return each;
            }
        }
        return null;
    }

    private int refusalOf(Device device) {
        Driver best = bestDriver(device.id);
        if (best == null) {
            return NO_DRIVER;
        }
        if (isLacking(device.parent)) {
            return PARENT_NOT_BOUND;
        }
        if (isLacking(device.first) || isLacking(device.second)) {
            return SUPPLIER_NOT_BOUND;
        }
        if (best.version < best.firmware) {
            return FIRMWARE_TOO_OLD;
        }
        if (device.size > 0 && freePlace(device) == NONE) {
            return NO_ROOM;
        }
        if (device.line != NONE && !isLineFree(device)) {
            return LINE_NOT_FREE;
        }
        return device.isByHand ? UNBOUND_BY_HAND : NOT_REFUSED;
    }

    private static boolean isLacking(Device need) {
        return need != null && !need.isBound();
    }

    private Driver bestDriver(int id) {
        Driver best = null;
        for (int i = 0; i < drivers.size(); i++) {
            Driver each = drivers.get(i);
            if (each.knows(id) && (best == null || each.rank > best.rank)) {
                best = each;
            }
        }
        return best;
    }

    private int freePlace(Device device) {
        Device space = device.space();
        int from = space == null ? 0 : space.begin;
        int end = space == null ? PLACES : space.begin + space.size;
        for (int place = from; place + device.size <= end; place++) {
            // a size is a power of two, so its multiples have none of the bits below it
            if ((place & (device.size - 1)) == 0 && isRoomAt(place, device.size, space)) {
                return place;
            }
        }
        return NONE;
    }

    private boolean isRoomAt(int place, int size, Device space) {
        for (int i = 0; i < bound.size(); i++) {
            Device other = bound.get(i);
            boolean overlaps = other.begin < place + size && place < other.begin + other.size;
            if (other.size > 0 && overlaps && other.space() == space) {
                return false;
            }
        }
        return true;
    }

    private boolean isLineFree(Device device) {
        for (int i = 0; i < bound.size(); i++) {
            Device other = bound.get(i);
            if (other.line == device.line && !(other.isShared && device.isShared)) {
                return false;
            }
        }
        return true;
    }

    private void attach(Device device) {
        wakeNeeds(device, 1);
        device.begin = device.size > 0 ? freePlace(device) : NONE;
        device.driver = bestDriver(device.id);
        device.isAwake = true;
        device.register = 0;
        device.isPending = false;
        device.touched = tick;
        bound.add(device);
        log.note(BOUND, device.number);
    }

    // ---- unbinding

    /** Unbinds the bound devices that are marked, and all that need one of them. */
    private int unbindTheLeaving() {
        // needs were bound ahead of what needs them: one way up marks all, one way down unbinds in order
        for (int i = 0; i < bound.size(); i++) {
            Device each = bound.get(i);
            each.isLeaving = each.isLeaving || each.hasLeavingNeed();
        }
        int left = 0;
        for (int i = bound.size() - 1; i >= 0; i--) {
            Device each = bound.get(i);
            if (each.isLeaving) {
                bound.remove(i);
                detach(each);
                left++;
            }
        }
        return left;
    }

    private void detach(Device device) {
        abortCallsOf(device);
        letMapsGo(device);
        for (int i = 0; i < opened.size(); i++) {
            Handle each = opened.get(i);
            if (each.device == device) {
                each.isDead = true;
            }
        }
        device.driver = null;
        device.begin = NONE;
        device.isAwake = false;
        device.isPending = false;
        device.fellBySuspend = false;
        device.isLeaving = false;
        log.note(UNBOUND, device.number);
    }

    private int takeAway(Device top) {
        int gone = 0;
        for (int i = devices.size() - 1; i >= 0; i--) {
            Device each = devices.get(i);
            if (each.isThere && each.isAtOrBelow(top)) {
                each.isThere = false;
                each.isPending = false;
                log.note(UNPLUGGED, each.number);
                gone++;
            }
        }
        return gone;
    }

    // ---- calls and maps

    private int abortCallsOf(Device device) {
        int ended = 0;
        for (int i = 0; i < made.size(); i++) {
            Call each = made.get(i);
            if (each.handle.device == device && each.abortIfGoing()) {
                ended++;
            }
        }
        return ended;
    }

    private boolean hasCallGoing(Device device) {
        for (int i = 0; i < made.size(); i++) {
            Call each = made.get(i);
            if (each.state == GOING && each.handle.device == device) {
                return true;
            }
        }
        return false;
    }

    private void letMapsGo(Device device) {
        for (int i = 0; i < slots.size(); i++) {
            Slot each = slots.get(i);
            if (each.owner == device) {
                each.owner = null;
            }
        }
    }

    private int lowestFreeSlot() {
        for (int i = 0; i < slots.size(); i++) {
            if (slots.get(i).owner == null) {
                return i;
            }
        }
        return NONE;
    }

    // ---- sleep

    private void wakeForUse(Device device) {
        wake(device, 0);
        device.touched = tick;
    }

    /** Wakes a device that is ASLEEP, its needs first; needs have lower numbers, which keeps the depth low. */
    private void wake(Device device, int depth) {
        if (device == null || device.isAwake || depth > MOST_DEVICES) {
            return;
        }
        wakeNeeds(device, depth + 1);
        device.isAwake = true;
        device.touched = tick;
        if (!device.isSaved()) {
            device.register = 0;
        }
        log.note(WOKEN, device.number);
    }

    private void wakeNeeds(Device device, int depth) {
        wake(device.parent, depth);
        wake(device.first, depth);
        wake(device.second, depth);
    }

    private void fallAsleep(Device device) {
        // the register stays as what was saved; waking clears it, if the driver does not save
        device.isAwake = false;
        log.note(SLEPT, device.number);
    }

    /** Wakes in the order of binding, which is also the last one first of those that fell asleep. */
    private int wakeTheSuspended() {
        int woken = 0;
        for (int i = 0; i < bound.size(); i++) {
            Device each = bound.get(i);
            if (each.fellBySuspend) {
                each.fellBySuspend = false;
                wake(each, 0);
                woken++;
            }
        }
        return woken;
    }

    private void finishCalls() {
        for (int i = 0; i < made.size(); i++) {
            Call each = made.get(i);
            if (each.state == GOING && each.end <= tick) {
                each.state = FINISHED;
            }
        }
    }

    private void touchTheHeld() {
        for (int i = 0; i < made.size(); i++) {
            Call each = made.get(i);
            if (each.state == GOING) {
                each.handle.device.touched = tick;
            }
        }
        for (int i = 0; i < bound.size(); i++) {
            Device each = bound.get(i);
            if (each.isAwake) {
                touch(each.parent);
                touch(each.first);
                touch(each.second);
            }
        }
    }

    private void touch(Device device) {
        if (device != null) {
            device.touched = tick;
        }
    }

    private void putIdleToSleep() {
        for (int i = bound.size() - 1; i >= 0; i--) {
            Device each = bound.get(i);
            if (each.isAwake && tick - each.touched >= TICKS_TILL_SLEEP) {
                fallAsleep(each);
            }
        }
    }

    // ---- lines

    private boolean isShut(int line) {
        return strikes(line) >= STRIKES_THAT_SHUT;
    }

    /** Asks a line without strikes; answers how many handle something. */
    private int ask(int line) {
        int handled = 0;
        for (int i = 0; i < bound.size(); i++) {
            Device each = bound.get(i);
            if (each.line == line && each.isPending && (each.isAwake || each.isSaved())) {
                wake(each, 0);
                each.isPending = false;
                handled++;
            }
        }
        return handled;
    }

    private void countStrike(int line, boolean wasHandled) {
        checkLine(line);
        if (wasHandled) {
            lineStrikes[line] = 0;
            return;
        }
        lineStrikes[line]++;
        if (isShut(line)) {
            log.note(SHUT, line);
        }
    }

    // ---- what is given

    private int countPlaces() {
        int places = 0;
        for (int i = 0; i < bound.size(); i++) {
            Device each = bound.get(i);
            if (each.space() == null) {
                places += each.size;
            }
        }
        return places;
    }

    private int countLines() {
        int lines = 0;
        for (int i = 0; i < bound.size(); i++) {
            int line = bound.get(i).line;
            if (line != NONE) {
                lines |= 1 << line;
            }
        }
        return Integer.bitCount(lines);
    }

    private int countSlots() {
        int mapped = 0;
        for (int i = 0; i < slots.size(); i++) {
            if (slots.get(i).owner != null) {
                mapped++;
            }
        }
        return mapped;
    }

    private static final class Device {
        private final int number;
        private final int id;
        private final int size;
        private final int line;
        private final boolean isShared;
        /** Null stands for the ROOT, and below for no supplier. */
        private Device parent;
        private Device first;
        private Device second;
        private boolean isThere = true;
        private boolean isByHand;
        /** The driver to which it is bound; null as long as it is not bound. */
        private Driver driver;
        private int begin = NONE;
        private boolean isAwake;
        private int register;
        private int touched;
        private boolean isPending;
        private boolean fellBySuspend;
        private boolean isLeaving;

        private Device(int number, int id, int size, int line, boolean isShared) {
            this.number = number;
            this.id = id;
            this.size = size;
            this.line = line;
            this.isShared = isShared;
        }

        private boolean isBound() {
            return driver != null;
        }

        private boolean isSaved() {
            return driver != null && driver.saves;
        }

        private boolean isAtOrBelow(Device top) {
            for (Device each = this; each != null; each = each.parent) {
                if (each == top) {
                    return true;
                }
            }
            return false;
        }

        private boolean hasLeavingNeed() {
            return parent != null && parent.isLeaving
                    || first != null && first.isLeaving
                    || second != null && second.isLeaving;
        }

        /** The ancestor whose window is the space; null for the places 0 to 63. */
        private Device space() {
            for (Device each = parent; each != null; each = each.parent) {
                if (each.begin != NONE) {
                    return each;
                }
            }
            return null;
        }
    }

    private static final class Driver {
        private final int number;
        private final int table;
        private final int rank;
        private final int firmware;
        private final boolean saves;
        private int version;

        private Driver(int number, int table, int rank, int firmware, boolean saves) {
            this.number = number;
            this.table = table;
            this.rank = rank;
            this.firmware = firmware;
            this.saves = saves;
        }

        private boolean knows(int id) {
            return (table >>> id & 1) == 1;
        }
    }

    private static final class Handle {
        private final Device device;
        private boolean isOpen = true;
        private boolean isDead;

        private Handle(Device device) {
            this.device = device;
        }

        private boolean isAlive() {
            return isOpen && !isDead;
        }
    }

    private static final class Call {
        private final Handle handle;
        private final int end;
        private int state = GOING;

        private Call(Handle handle, int end) {
            this.handle = handle;
            this.end = end;
        }

        private boolean abortIfGoing() {
            if (state != GOING) {
                return false;
            }
            state = ABORTED;
            return true;
        }
    }

    private static final class Slot {
        /** The device for which it is mapped; null as long as it is free. */
        private Device owner;
        private int page;
    }

    /** Counts all events and keeps the latest ones, each in the place of the one it drives out. */
    private static final class EventLog {
        private static final int KEPT = 20;
        private final int[] kinds = new int[KEPT];
        private final int[] subjects = new int[KEPT];
        private int count;

        private void note(int kind, int subject) {
            int place = Math.floorMod(count, KEPT);
            kinds[place] = kind;
            subjects[place] = subject;
            count++;
        }

        private boolean keeps(int event) {
            return event >= 0 && event < count && event >= count - KEPT;
        }

        private int kindAt(int event) {
            return kinds[Math.floorMod(event, KEPT)];
        }

        private int subjectAt(int event) {
            return subjects[Math.floorMod(event, KEPT)];
        }
    }
}
