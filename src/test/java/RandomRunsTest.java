import java.util.ArrayList;
import java.util.List;

/**
 * Long runs of calls with all kinds of arguments: no call throws but what its clause lists, and at the
 * end of each run what is given is what the bound devices have. The runs are the same each time.
 */
public final class RandomRunsTest {
    private static final int NONE = DriverMoor.NONE;
    private static final int RUNS = 1000;
    /** Each comes with a question; with those at the end of a run they stay under the 512 that are promised. */
    private static final int CALLS = 135;
    private static final int[] SIZES = {0, 1, 2, 4, 8, 0, 2, 3};
    private static final int[] ODD = {-1, -2, 99, 1000, Integer.MAX_VALUE, Integer.MIN_VALUE};

    private static final int INDEX = 1;
    private static final int ARGUMENT = 2;
    private static final int STATE = 4;

    private final DriverMoor x = new DriverMoor();
    private final List<int[]> plugged = new ArrayList<>();
    private long seed;
    private int handleCount;

    private RandomRunsTest(int run) {
        seed = run * 7919L + 17;
    }

    public static void main(String[] args) {
        for (int run = 0; run < RUNS; run++) {
            new RandomRunsTest(run).run();
        }
        Due.end("RandomRunsTest");
    }

    private void run() {
        x.driver(0x0F, below(10), 0, true);
        x.driver(0x3C, below(10), below(2), false);
        for (int i = 0; i < CALLS; i++) {
            step();
        }
        int[] begins = new int[plugged.size()];
        boolean[] isBound = new boolean[plugged.size()];
        for (int device = 0; device < begins.length; device++) {
            isBound[device] = x.reason(device) == 0;
            begins[device] = x.window(device);
        }
        checkCounts(isBound, begins);
        checkNeeds(isBound);
        checkWindows(begins);
        checkLines(isBound);
    }

    private int below(int bound) {
        seed = seed * 6364136223846793005L + 1442695040888963407L;
        return (int) ((seed >>> 33) % bound);
    }

    /** Mostly a number that is in use, at times one that is out of all ranges. */
    private int some(int count) {
        if (below(12) == 0) {
            return ODD[below(ODD.length)];
        }
        return count == 0 ? 0 : below(count);
    }

    private void step() {
        int device = some(plugged.size());
        int handle = some(handleCount);
        switch (below(19)) {
            case 0 -> plug();
            case 1 -> plug();
            case 2 -> allowed("unplug", INDEX | STATE, () -> x.unplug(below(4) == 0 ? device : NONE));
            case 3 -> allowed("driver", ARGUMENT | STATE, () -> x.driver(1 << below(32), some(10), some(10), true));
            case 4 -> allowed("load", INDEX | ARGUMENT, () -> x.load(some(8), some(10)));
            case 5 -> allowed("unbind", INDEX | STATE, () -> x.unbind(device));
            case 6 -> allowed("bind", INDEX | STATE, () -> x.bind(device));
            case 7 -> allowed("reset", INDEX | STATE, () -> x.reset(device));
            case 8 -> open(device);
            case 9 -> allowed("close", INDEX | STATE, () -> x.close(handle));
            case 10 -> allowed("call", INDEX | ARGUMENT | STATE, () -> x.call(handle, some(21)));
            case 11 -> allowed("set", INDEX | ARGUMENT | STATE, () -> x.set(handle, some(100)));
            case 12 -> allowed("get", INDEX | STATE, () -> x.get(handle));
            case 13 -> allowed("map", INDEX | ARGUMENT | STATE, () -> x.map(handle, some(32)));
            case 14 -> allowed("unmap", INDEX | STATE, () -> x.unmap(handle, some(16)));
            case 15 -> allowed("access", INDEX | STATE, () -> x.access(device, some(16)));
            case 16 -> allowed("pass", ARGUMENT | STATE, () -> x.pass(some(7)));
            case 17 -> sleepOrResume();
            default -> line(device);
        }
        ask(device);
    }

    private void sleepOrResume() {
        if (below(3) == 0) {
            allowed("suspend", STATE, x::suspend);
        } else {
            allowed("resume", STATE, x::resume);
        }
    }

    private void line(int device) {
        if (below(4) == 0) {
            allowed("openLine", INDEX, () -> x.openLine(some(8)));
        } else {
            allowed("raise", INDEX | STATE, () -> x.raise(device));
        }
    }

    private void ask(int number) {
        switch (below(13)) {
            case 0 -> allowed("reason", INDEX, () -> x.reason(number));
            case 1 -> allowed("driverOf", INDEX, () -> x.driverOf(number));
            case 2 -> allowed("window", INDEX, () -> x.window(number));
            case 3 -> allowed("isOn", INDEX, () -> x.isOn(number));
            case 4 -> allowed("isPending", INDEX, () -> x.isPending(number));
            case 5 -> allowed("strikes", INDEX, () -> x.strikes(number));
            case 6 -> allowed("handles", INDEX, () -> x.handles(number));
            case 7 -> allowed("callState", INDEX, () -> x.callState(number));
            case 8 -> allowed("given", ARGUMENT, () -> x.given(number));
            case 9 -> allowed("eventKind", INDEX, () -> x.eventKind(number));
            case 10 -> allowed("eventOf", INDEX, () -> x.eventOf(number));
            case 11 -> allowed("isThere", INDEX, () -> x.isThere(number));
            default -> allowed(number < 0 ? "faults" : "events", 0, number < 0 ? x::faults : x::events);
        }
    }

    private void plug() {
        int[] row = {below(3) == 0 ? NONE : some(plugged.size()), below(7), SIZES[below(SIZES.length)],
            below(4) - 1, below(4) == 0 ? 0 : 1, below(3) == 0 ? some(plugged.size()) : NONE,
            below(3) == 0 ? some(plugged.size()) : NONE};
        boolean isIn = allowed("plug", INDEX | ARGUMENT | STATE,
                () -> x.plug(row[0], row[1], row[2], row[3], row[4] == 1, row[5], row[6]));
        if (isIn) {
            plugged.add(row);
        }
    }

    private void open(int device) {
        if (allowed("open", INDEX | STATE, () -> x.open(device))) {
            handleCount++;
        }
    }

    /** Makes a call, and tells whether it did not throw. */
    private static boolean allowed(String what, int exceptions, Due.Act act) {
        try {
            act.go();
            Due.is(what, true, true);
            return true;
        } catch (RuntimeException e) {
            Class<?> kind = e.getClass();
            boolean isListed = kind == IndexOutOfBoundsException.class && (exceptions & INDEX) != 0
                    || kind == IllegalArgumentException.class && (exceptions & ARGUMENT) != 0
                    || kind == IllegalStateException.class && (exceptions & STATE) != 0;
            Due.is(what + " threw " + e, isListed && Due.isThrownByProgram(e), true);
            return false;
        }
    }

    private void checkCounts(boolean[] isBound, int[] begins) {
        int bound = 0;
        int places = 0;
        int lines = 0;
        for (int device = 0; device < begins.length; device++) {
            int[] row = plugged.get(device);
            if (isBound[device]) {
                bound++;
                places += spaceOf(device, begins) == NONE ? row[2] : 0;
                lines |= row[3] == NONE ? 0 : 1 << row[3];
            }
        }
        Due.is("bound devices", x.given(3), bound);
        Due.is("places", x.given(0), places);
        Due.is("lines", x.given(1), Integer.bitCount(lines));
    }

    private void checkNeeds(boolean[] isBound) {
        for (int device = 0; device < isBound.length; device++) {
            int[] row = plugged.get(device);
            for (int at : new int[] {0, 5, 6}) {
                int need = row[at];
                boolean isWanting = need != NONE && isBound[device] && !isBound[need];
                boolean isLost = need != NONE && x.isOn(device) && !x.isOn(need);
                Due.is("a bound device without what it needs", isWanting, false);
                Due.is("a device ON that needs one ASLEEP", isLost, false);
            }
            Due.is("ON, not bound", x.isOn(device) && !isBound[device], false);
        }
    }

    private int spaceOf(int device, int[] begins) {
        int above = plugged.get(device)[0];
        while (above != NONE && begins[above] == NONE) {
            above = plugged.get(above)[0];
        }
        return above;
    }

    private void checkWindows(int[] begins) {
        for (int one = 0; one < begins.length; one++) {
            int size = plugged.get(one)[2];
            if (begins[one] == NONE) {
                continue;
            }
            int space = spaceOf(one, begins);
            int from = space == NONE ? 0 : begins[space];
            int end = space == NONE ? 64 : from + plugged.get(space)[2];
            boolean isInside = begins[one] >= from && begins[one] + size <= end && begins[one] % size == 0;
            Due.is("a window in its space", isInside, true);
            for (int two = 0; two < one; two++) {
                boolean isSame = begins[two] != NONE && spaceOf(two, begins) == space;
                boolean isApart = begins[one] + size <= begins[two]
                        || begins[two] + plugged.get(two)[2] <= begins[one];
                Due.is("windows apart", !isSame || isApart, true);
            }
        }
    }

    private void checkLines(boolean[] isBound) {
        for (int one = 0; one < isBound.length; one++) {
            for (int two = 0; two < one; two++) {
                int[] first = plugged.get(one);
                int[] second = plugged.get(two);
                boolean isSame = isBound[one] && isBound[two] && first[3] == second[3] && first[3] != NONE;
                Due.is("a line is shared by all that have it", !isSame || first[4] + second[4] == 2, true);
            }
        }
    }
}
