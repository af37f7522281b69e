import java.lang.management.ManagementFactory;

/**
 * All calls of one run live in one room, with nothing given back: measures what many of the dearest calls make. It is
 * run by hand and is no test, as the document leaves free how the state is held.
 */
public final class RoomMeter {
    // With the calls that fill slot 0 they stay under the 512 that an object is used for.
    private static final int CALLS = 380;
    private static final long MOST_BYTES = 4 * 7_300_000L;

    private static com.sun.management.ThreadMXBean meter;
    private static Object last;

    private static long made() {
        return meter.getThreadAllocatedBytes(Thread.currentThread().getId());
    }

    private static void due(String what, long bytes) {
        System.out.println(what + ": " + bytes + " bytes");
        Checks.same(what + " fits in the room", Boolean.toString(bytes < MOST_BYTES), "true");
    }

    /** Fills slot 0 by the first filter, then runs the second one on it for the rest of the calls. */
    private static void runs(String what, String value, String filter, String want) {
        Script script = Script.with(value);
        Checks.same(what, script.ran(filter, 0), want);
        long before = made();
        for (int k = 0; k < CALLS; k++) {
            again(script.bench);
        }
        due(CALLS + " runs of " + what, made() - before);
    }

    private static void again(FilterBench bench) {
        try {
            bench.run(0, 0);
        } catch (IllegalStateException | UnsupportedOperationException e) {
            last = e;
        }
    }

    private static void newObjects() {
        long before = made();
        for (int k = 0; k < CALLS; k++) {
            last = new FilterBench();
        }
        due(CALLS + " new objects", made() - before);
    }

    private static void letters() {
        FilterBench bench = new FilterBench();
        long before = made();
        for (int k = 0; k < CALLS; k++) {
            if (k % 13 == 12) {
                bench.wipe(1, 0);
            } else {
                bench.letter(0, 'a');
            }
        }
        due(CALLS + " letters", made() - before);
    }

    public static void main(String[] args) {
        if (!(ManagementFactory.getThreadMXBean() instanceof com.sun.management.ThreadMXBean able)
                || !able.isThreadAllocatedMemorySupported()) {
            System.out.println("this machine can't measure what is made");
            return;
        }
        meter = able;
        made();
        String objects = "ARRAY COMMA COMMA OBJECT:0 SELF COMMA OBJECT:1 SELF OBJECT:2 SELF "
                + "COMMA COMMA OBJECT:3 SELF OBJECT:4 SELF COMMA OBJECT:5 SELF OBJECT:0 SELF;"
                + "CALC:0 SELF ARRAY COMMA COMMA OBJECT:0 WORD:0 OBJECT:1 WORD:0 COMMA OBJECT:2 WORD:0 OBJECT:3 WORD:0";
        runs("sums of OBJECTS", objects, "LIMIT:1 BIND:0 RANGE NUMBER:7000 LIMIT:1 COMPARE:0 SUM RANGE NUMBER:16000",
                "false");
        runs("CALCS of OBJECTS", objects, "BIND:0 RANGE NUMBER:16000 ARRAY PIPE CALC:0 EACH OBJECT:5 WORD:2 WORD:2",
                "no room");
        runs("CALCS of OBJECTS in ROOM", objects, "LIMIT:1 BIND:0 RANGE NUMBER:16000 LIMIT:1 CALC:0 EACH OBJECT:0 NUMBER:1",
                "{a:0.001}");
        runs("KEYS and SORTS", "ARRAY RANGE NUMBER:12000",
                "LIMIT:1 BIND:0 RANGE NUMBER:5000 LIMIT:1 COMPARE:2 CALC:1 SORT KEYS RANGE NUMBER:5000", "false");
        runs("a long way without ROOM", "SELF",
                "REDUCE:0 RANGE NUMBER:16000 SELF PIPE CALC:0 RANGE NUMBER:16000 NUMBER:1 SELF", "no room");
        runs("an ERROR", "SELF", "RAISE", "!null");
        newObjects();
        letters();
        Checks.end();
    }
}
