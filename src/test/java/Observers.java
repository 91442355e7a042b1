import java.util.ArrayList;
import java.util.List;

/** All calls that only ask, with every argument that there is and some next to them. */
final class Observers {
    private Observers() {
    }

    /** For a state of so much; each list may be longer than what one object can still be asked. */
    static List<String> calls(int versions, int batches, int recalls, int time) {
        List<String> calls = new ArrayList<>(List.of("versions()", "stopped()", "time()", "batches()", "onSale()", "recalls()"));
        for (int bakery = 0; bakery < 5; bakery++) {
            add(calls, bakery, "role", "term", "votedFor", "entries", "store", "missed");
            addPairs(calls, "reach", bakery, 0, 4);
            addPairs(calls, "versionAt", bakery, 0, 20);
            addPairs(calls, "current", bakery, 0, 5);
            addPairs(calls, "booked", bakery, time, time + 50);
        }
        for (int version = 0; version <= versions; version++) {
            add(calls, version, "termOf", "holders", "isHeld", "wasHeld");
        }
        for (int batch = 0; batch <= batches; batch++) {
            add(calls, batch, "versionOf", "lotsOf", "left", "barred", "barredAnew");
        }
        for (int lot = 0; lot < 16; lot++) {
            add(calls, lot, "traced");
            addPairs(calls, "tracedAt", lot, 0, Math.min(batches, 5));
        }
        for (int recall = 0; recall <= recalls; recall++) {
            add(calls, recall, "recallOf", "calledBack", "why");
        }
        return calls;
    }

    private static void add(List<String> calls, int argument, String... names) {
        for (String name : names) {
            calls.add(name + "(" + argument + ")");
        }
    }

    private static void addPairs(List<String> calls, String name, int first, int from, int to) {
        for (int second = from; second <= to; second++) {
            calls.add(name + "(" + first + ", " + second + ")");
        }
    }
}
