/**
 * Each exception of each throws clause, in the order in which the clause lists them; and that a call
 * that throws changes nothing: of two worlds made alike, the one in which a call threw tells the same
 * story as the other.
 */
public final class ThrowsTest {
    private static final int NONE = DriverMoor.NONE;
    private static final int HUSK = 4;
    private static final int BY_HAND = 5;
    private static final int CLOSED = 2;
    private static final int DEAD = 3;
    private static final Class<? extends RuntimeException> INDEX = IndexOutOfBoundsException.class;
    private static final Class<? extends RuntimeException> ARGUMENT = IllegalArgumentException.class;
    private static final Class<? extends RuntimeException> STATE = IllegalStateException.class;

    private interface Maker {
        DriverMoor make();
    }

    private interface Change {
        void on(DriverMoor x);
    }

    public static void main(String[] args) {
        plug();
        devices();
        drivers();
        handles();
        maps();
        ticks();
        asked();
        Due.end("ThrowsTest");
    }

    private static void check(String what, Maker maker, Class<? extends RuntimeException> want, Change change) {
        Due.is("unchanged by " + what, Story.of(refused(what, maker, want, change)), Story.of(maker.make()));
        // other worlds for the tail: all that a story asks is too much for the 512 calls of one
        Due.is("unchanged by " + what, Story.tail(refused(what, maker, want, change), 5, 3),
                Story.tail(maker.make(), 5, 3));
    }

    private static DriverMoor refused(String what, Maker maker, Class<? extends RuntimeException> want,
            Change change) {
        DriverMoor x = maker.make();
        Due.fails(what, want, () -> change.on(x));
        return x;
    }

    /** Bound are 0, 1, 2; 3 waits for firmware; 4 is a husk; 5 was unbound by hand. */
    private static DriverMoor busy() {
        DriverMoor x = new DriverMoor();
        x.driver(0b0111, 1, 0, false);
        x.driver(0b1000, 0, 0, true);
        x.driver(0b10000, 0, 5, false);
        x.plug(NONE, 0, 8, 0, true, NONE, NONE);
        x.plug(0, 3, 2, 1, false, NONE, NONE);
        x.plug(0, 1, 0, NONE, false, 1, NONE);
        x.plug(NONE, 4, 0, NONE, false, NONE, NONE);
        x.plug(NONE, 0, 1, NONE, false, NONE, NONE);
        x.plug(NONE, 2, 1, 2, false, NONE, NONE);
        x.open(0);
        x.open(1);
        x.open(2);
        x.open(HUSK);
        x.open(BY_HAND);
        x.close(CLOSED);
        x.unplug(HUSK);
        x.unbind(BY_HAND);
        x.raise(BY_HAND);
        x.pass(1);
        x.set(1, 7);
        x.map(0, 3);
        x.map(1, 4);
        x.call(0, 3);
        x.access(1, 0);
        return x;
    }

    private static DriverMoor suspended() {
        DriverMoor x = busy();
        x.pass(3);
        x.suspend();
        return x;
    }

    private static DriverMoor fullOfDevices() {
        DriverMoor x = busy();
        for (int i = 6; i < 24; i++) {
            x.plug(NONE, 9, 0, NONE, false, NONE, NONE);
        }
        return x;
    }

    private static DriverMoor fullOfDrivers() {
        DriverMoor x = busy();
        for (int i = 3; i < 8; i++) {
            x.driver(0, 0, 0, false);
        }
        return x;
    }

    private static DriverMoor fullOfHandles() {
        DriverMoor x = busy();
        for (int i = 5; i < 40; i++) {
            x.open(0);
        }
        return x;
    }

    private static DriverMoor fullOfCalls() {
        DriverMoor x = busy();
        for (int i = 1; i < 100; i++) {
            x.call(1, 2);
        }
        return x;
    }

    private static DriverMoor fullOfMaps() {
        DriverMoor x = busy();
        for (int i = 2; i < 16; i++) {
            x.map(1, i);
        }
        return x;
    }

    private static void plug() {
        check("plug: parent 6", ThrowsTest::busy, INDEX, x -> x.plug(6, 0, 0, NONE, false, NONE, NONE));
        check("plug: parent -2", ThrowsTest::busy, INDEX, x -> x.plug(-2, 0, 0, NONE, false, NONE, NONE));
        check("plug: parent a husk", ThrowsTest::busy, INDEX, x -> x.plug(HUSK, 0, 0, NONE, false, NONE, NONE));
        check("plug: first 6", ThrowsTest::busy, INDEX, x -> x.plug(0, 0, 0, NONE, false, 6, NONE));
        check("plug: first a husk", ThrowsTest::busy, INDEX, x -> x.plug(0, 0, 0, NONE, false, HUSK, NONE));
        check("plug: second -2", ThrowsTest::busy, INDEX, x -> x.plug(0, 0, 0, NONE, false, NONE, -2));
        check("plug: second a husk", ThrowsTest::busy, INDEX, x -> x.plug(0, 0, 0, NONE, false, 0, HUSK));
        check("plug: id -1", ThrowsTest::busy, ARGUMENT, x -> x.plug(0, -1, 0, NONE, false, NONE, NONE));
        check("plug: id 32", ThrowsTest::busy, ARGUMENT, x -> x.plug(0, 32, 0, NONE, false, NONE, NONE));
        for (int size : new int[] {-1, 3, 5, 6, 7, 9, 16, Integer.MIN_VALUE}) {
            check("plug: size " + size, ThrowsTest::busy, ARGUMENT,
                    x -> x.plug(0, 0, size, NONE, false, NONE, NONE));
        }
        check("plug: line -2", ThrowsTest::busy, ARGUMENT, x -> x.plug(0, 0, 0, -2, false, NONE, NONE));
        check("plug: line 8", ThrowsTest::busy, ARGUMENT, x -> x.plug(0, 0, 0, 8, false, NONE, NONE));
        check("plug: one supplier twice", ThrowsTest::busy, ARGUMENT, x -> x.plug(0, 0, 0, NONE, false, 1, 1));
        check("plug: 24", ThrowsTest::fullOfDevices, STATE, x -> x.plug(0, 0, 0, NONE, false, NONE, NONE));
        check("plug: index first", ThrowsTest::fullOfDevices, INDEX, x -> x.plug(24, 32, 3, 8, false, 1, 1));
        check("plug: index first", ThrowsTest::busy, INDEX, x -> x.plug(0, 0, 0, NONE, false, HUSK, HUSK));
        check("plug: index first", ThrowsTest::busy, INDEX, x -> x.plug(0, 0, 3, NONE, false, NONE, 9));
        check("plug: argument second", ThrowsTest::fullOfDevices, ARGUMENT,
                x -> x.plug(0, 32, 0, NONE, false, NONE, NONE));
        check("plug: argument second", ThrowsTest::fullOfDevices, ARGUMENT,
                x -> x.plug(0, 0, 0, NONE, false, 2, 2));
    }

    private static void devices() {
        for (int number : new int[] {-1, 6, Integer.MAX_VALUE}) {
            check("unplug: " + number, ThrowsTest::busy, INDEX, x -> x.unplug(number));
            check("unbind: " + number, ThrowsTest::busy, INDEX, x -> x.unbind(number));
            check("bind: " + number, ThrowsTest::busy, INDEX, x -> x.bind(number));
            check("reset: " + number, ThrowsTest::busy, INDEX, x -> x.reset(number));
            check("reset, suspended: " + number, ThrowsTest::suspended, INDEX, x -> x.reset(number));
            check("open: " + number, ThrowsTest::fullOfHandles, INDEX, x -> x.open(number));
            check("raise: " + number, ThrowsTest::busy, INDEX, x -> x.raise(number));
        }
        check("unplug: a husk", ThrowsTest::busy, STATE, x -> x.unplug(HUSK));
        for (int number = 3; number < 6; number++) {
            int each = number;
            check("unbind: not bound, " + each, ThrowsTest::busy, STATE, x -> x.unbind(each));
            check("reset: not bound, " + each, ThrowsTest::busy, STATE, x -> x.reset(each));
            check("open: not bound, " + each, ThrowsTest::busy, STATE, x -> x.open(each));
        }
        for (int number = 0; number < 5; number++) {
            int each = number;
            check("bind: not by hand, " + each, ThrowsTest::busy, STATE, x -> x.bind(each));
        }
        check("reset: suspended", ThrowsTest::suspended, STATE, x -> x.reset(0));
        check("open: suspended", ThrowsTest::suspended, STATE, x -> x.open(0));
        check("open: 40", ThrowsTest::fullOfHandles, STATE, x -> x.open(0));
        check("raise: a husk", ThrowsTest::busy, STATE, x -> x.raise(HUSK));
        check("raise: no line", ThrowsTest::busy, STATE, x -> x.raise(2));
        check("raise: no line, suspended", ThrowsTest::suspended, STATE, x -> x.raise(3));
    }

    private static void drivers() {
        for (int wrong : new int[] {-1, 10, Integer.MIN_VALUE}) {
            check("driver: rank " + wrong, ThrowsTest::busy, ARGUMENT, x -> x.driver(-1, wrong, 0, true));
            check("driver: firmware " + wrong, ThrowsTest::busy, ARGUMENT, x -> x.driver(-1, 0, wrong, true));
            check("load: version " + wrong, ThrowsTest::busy, ARGUMENT, x -> x.load(0, wrong));
        }
        check("driver: 8", ThrowsTest::fullOfDrivers, STATE, x -> x.driver(-1, 0, 0, true));
        check("driver: argument first", ThrowsTest::fullOfDrivers, ARGUMENT, x -> x.driver(-1, 10, 0, true));
        check("load: driver 3", ThrowsTest::busy, INDEX, x -> x.load(3, 1));
        check("load: driver -1", ThrowsTest::busy, INDEX, x -> x.load(-1, 1));
        check("load: index first", ThrowsTest::busy, INDEX, x -> x.load(3, 10));
    }

    private static void handles() {
        for (int number : new int[] {-1, 5, Integer.MAX_VALUE}) {
            check("close: " + number, ThrowsTest::busy, INDEX, x -> x.close(number));
            check("call: " + number, ThrowsTest::busy, INDEX, x -> x.call(number, 0));
            check("call, suspended: " + number, ThrowsTest::suspended, INDEX, x -> x.call(number, 1));
            check("set: " + number, ThrowsTest::busy, INDEX, x -> x.set(number, 100));
            check("set, suspended: " + number, ThrowsTest::suspended, INDEX, x -> x.set(number, 1));
            check("get: " + number, ThrowsTest::busy, INDEX, x -> x.get(number));
            check("get, suspended: " + number, ThrowsTest::suspended, INDEX, x -> x.get(number));
        }
        for (int wrong : new int[] {0, -1, 21}) {
            check("call: ticks " + wrong, ThrowsTest::busy, ARGUMENT, x -> x.call(0, wrong));
            check("call: ticks ahead of the state " + wrong, ThrowsTest::suspended, ARGUMENT,
                    x -> x.call(CLOSED, wrong));
        }
        for (int wrong : new int[] {-1, 100}) {
            check("set: value " + wrong, ThrowsTest::busy, ARGUMENT, x -> x.set(0, wrong));
            check("set: value ahead of the state " + wrong, ThrowsTest::suspended, ARGUMENT,
                    x -> x.set(DEAD, wrong));
        }
        check("close: closed", ThrowsTest::busy, STATE, x -> x.close(CLOSED));
        for (int number = CLOSED; number < 5; number++) {
            int each = number;
            check("call: closed or dead " + each, ThrowsTest::busy, STATE, x -> x.call(each, 1));
            check("set: closed or dead " + each, ThrowsTest::busy, STATE, x -> x.set(each, 1));
            check("get: closed or dead " + each, ThrowsTest::busy, STATE, x -> x.get(each));
        }
        check("call: suspended", ThrowsTest::suspended, STATE, x -> x.call(1, 1));
        check("call: 100", ThrowsTest::fullOfCalls, STATE, x -> x.call(1, 1));
        check("set: suspended", ThrowsTest::suspended, STATE, x -> x.set(1, 1));
        check("get: suspended", ThrowsTest::suspended, STATE, x -> x.get(1));
    }

    private static void maps() {
        for (int number : new int[] {-1, 5}) {
            check("map: " + number, ThrowsTest::busy, INDEX, x -> x.map(number, 32));
            check("map, full: " + number, ThrowsTest::fullOfMaps, INDEX, x -> x.map(number, 1));
            check("unmap: " + number, ThrowsTest::busy, INDEX, x -> x.unmap(number, 0));
        }
        for (int wrong : new int[] {-1, 32}) {
            check("map: page " + wrong, ThrowsTest::busy, ARGUMENT, x -> x.map(0, wrong));
            check("map, full: page " + wrong, ThrowsTest::fullOfMaps, ARGUMENT, x -> x.map(0, wrong));
        }
        for (int wrong : new int[] {-1, 16}) {
            check("unmap: slot " + wrong, ThrowsTest::busy, INDEX, x -> x.unmap(0, wrong));
            check("unmap: slot ahead of the state " + wrong, ThrowsTest::busy, INDEX, x -> x.unmap(DEAD, wrong));
            check("access: slot " + wrong, ThrowsTest::busy, INDEX, x -> x.access(0, wrong));
            check("access: slot ahead of the state " + wrong, ThrowsTest::busy, INDEX, x -> x.access(HUSK, wrong));
            check("access: device " + wrong, ThrowsTest::busy, INDEX, x -> x.access(wrong, 0));
        }
        for (int number = CLOSED; number < 5; number++) {
            int each = number;
            check("map: closed or dead " + each, ThrowsTest::busy, STATE, x -> x.map(each, 1));
            check("unmap: closed or dead " + each, ThrowsTest::busy, STATE, x -> x.unmap(each, 0));
        }
        check("map: suspended", ThrowsTest::suspended, STATE, x -> x.map(0, 1));
        check("map: no slot", ThrowsTest::fullOfMaps, STATE, x -> x.map(0, 1));
        check("unmap: of another", ThrowsTest::busy, STATE, x -> x.unmap(0, 1));
        check("unmap: free", ThrowsTest::busy, STATE, x -> x.unmap(0, 2));
        check("access: a husk", ThrowsTest::busy, STATE, x -> x.access(HUSK, 0));
    }

    private static void ticks() {
        for (int wrong : new int[] {0, -1, 51}) {
            check("pass: " + wrong, ThrowsTest::busy, ARGUMENT, x -> x.pass(wrong));
            check("pass, suspended: " + wrong, ThrowsTest::suspended, ARGUMENT, x -> x.pass(wrong));
        }
        check("pass: suspended", ThrowsTest::suspended, STATE, x -> x.pass(1));
        check("suspend: suspended", ThrowsTest::suspended, STATE, DriverMoor::suspend);
        check("resume: not suspended", ThrowsTest::busy, STATE, DriverMoor::resume);
        for (int wrong : new int[] {-1, 8}) {
            check("openLine: " + wrong, ThrowsTest::busy, INDEX, x -> x.openLine(wrong));
        }
    }

    private static void asked() {
        for (int wrong : new int[] {-1, 6}) {
            check("isThere", ThrowsTest::busy, INDEX, x -> x.isThere(wrong));
            check("reason", ThrowsTest::busy, INDEX, x -> x.reason(wrong));
            check("driverOf", ThrowsTest::busy, INDEX, x -> x.driverOf(wrong));
            check("window", ThrowsTest::busy, INDEX, x -> x.window(wrong));
            check("isOn", ThrowsTest::busy, INDEX, x -> x.isOn(wrong));
            check("isPending", ThrowsTest::busy, INDEX, x -> x.isPending(wrong));
            check("handles", ThrowsTest::busy, INDEX, x -> x.handles(wrong));
            check("callState", ThrowsTest::busy, INDEX, x -> x.callState(wrong));
            check("given", ThrowsTest::busy, ARGUMENT, x -> x.given(wrong));
        }
        for (int wrong : new int[] {-1, 99}) {
            check("strikes", ThrowsTest::busy, INDEX, x -> x.strikes(wrong));
            check("eventKind", ThrowsTest::busy, INDEX, x -> x.eventKind(wrong));
            check("eventOf", ThrowsTest::busy, INDEX, x -> x.eventOf(wrong));
        }
    }
}
