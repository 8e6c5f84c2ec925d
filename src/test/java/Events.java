/** Writes events as text, so that a test can tell a whole run of them at once. */
final class Events {
    private static final String[] KINDS = {"bound", "unbound", "unplugged", "slept", "woken", "shut"};

    private Events() {
    }

    /** The events from one number on, as "bound 0, slept 0". */
    static String from(DriverMoor x, int first) {
        StringBuilder text = new StringBuilder();
        int count = x.events();
        for (int event = first; event < count; event++) {
            text.append(event == first ? "" : ", ");
            text.append(KINDS[x.eventKind(event)]).append(' ').append(x.eventOf(event));
        }
        return text.toString();
    }
}
