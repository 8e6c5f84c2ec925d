/** Tells all that a world answers, as text, so that two worlds can be compared. */
final class Story {
    private Story() {
    }

    /** All that is asked without a change. */
    static String of(DriverMoor x) {
        StringBuilder text = new StringBuilder();
        for (int device = 0; has(x, device); device++) {
            text.append("\n device ").append(device).append(": ").append(x.isThere(device) ? "there " : "gone ");
            text.append(x.reason(device)).append(' ').append(x.driverOf(device)).append(' ');
            text.append(x.window(device)).append(x.isOn(device) ? " on " : " off ");
            text.append(x.isPending(device) ? "pending " : "").append(x.handles(device));
        }
        text.append("\n calls");
        for (int call = 0; hasCall(x, call); call++) {
            text.append(' ').append(x.callState(call));
        }
        text.append("\n strikes");
        for (int line = 0; line < 8; line++) {
            text.append(' ').append(x.strikes(line));
        }
        text.append("\n faults ").append(x.faults()).append(", given");
        for (int what = 0; what < 4; what++) {
            text.append(' ').append(x.given(what));
        }
        int count = x.events();
        text.append("\n events ").append(count).append(": ");
        text.append(Events.from(x, Math.max(0, count - 20)));
        return text.toString();
    }

    /** What comes to light only by calls that change something: registers, handles, maps, firmware, ticks. */
    static String tail(DriverMoor x, int handleCount, int driverCount) {
        StringBuilder text = new StringBuilder("\n tail");
        add(text, x::resume);
        for (int handle = 0; handle < handleCount; handle++) {
            int each = handle;
            add(text, () -> x.get(each));
            add(text, () -> x.map(each, 1));
        }
        for (int slot = 0; slot < 16; slot++) {
            int each = slot;
            add(text, () -> x.access(0, each));
        }
        for (int driver = 0; driver < driverCount; driver++) {
            int each = driver;
            add(text, () -> x.load(each, 9));
        }
        for (int i = 0; i < 6; i++) {
            add(text, () -> x.pass(1));
            text.append(x.isOn(0) ? '+' : '-');
        }
        add(text, () -> x.plug(-1, 0, 1, -1, false, -1, -1));
        add(text, () -> x.bind(5));
        return text.append(of(x)).toString();
    }

    interface Asked {
        int answer();
    }

    private static void add(StringBuilder text, Asked asked) {
        text.append(' ');
        try {
            text.append(asked.answer());
        } catch (IndexOutOfBoundsException | IllegalArgumentException | IllegalStateException e) {
            text.append(e.getClass().getSimpleName());
        }
    }

    private static boolean has(DriverMoor x, int device) {
        try {
            x.isThere(device);
            return true;
        } catch (IndexOutOfBoundsException e) {
            return false;
        }
    }

    private static boolean hasCall(DriverMoor x, int call) {
        try {
            x.callState(call);
            return true;
        } catch (IndexOutOfBoundsException e) {
            return false;
        }
    }
}
