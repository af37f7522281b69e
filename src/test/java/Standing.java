/**
 * A bench on which nothing is as at first: STRINGS, FILTERS, slots, OUTPUTS, a FAULT and all counts are set. What a
 * refused call must leave alone is looked at by telling all that later calls show.
 */
final class Standing {
    /** 2 OUTPUTS, 8 steps, 1 run ended by an ERROR and 1 without ROOM. */
    static final String COUNTS = "2 8 1 1";
    static final String SLOTS = "[0,{a:'ab'}] null null 1.5 null null null 'twelve chars'";
    static final String OUTPUTS = "'ab' 1";
    static final String FAULT = "{a:true}";
    private static final String FILTERS = "0 1|not right|8|'ab' 1 !{a:true}|2 2 32 8";
    private static final String STRINGS = "'a' 'b' 'ab' '' 'c' 'd' 'e' 'twelve chars'|1 1 2 0 1 1 1 12";
    private static final int HELD_SLOT = 3;
    private static final int SHOWING_SLOT = 6;

    final Script script = Script.withStrings();
    final FilterBench bench = script.bench;

    Standing() {
        script.become(0, "ARRAY COMMA NUMBER:0 OBJECT:0 STRING:2");
        script.become(HELD_SLOT, "NUMBER:1500");
        script.become(7, "STRING:7");
        script.fill(0, "RANGE NUMBER:17000");
        Checks.told(() -> bench.run(0, 0));
        script.fill(0, "RANGE NUMBER:2000");
        script.fill(1, "PIPE SELF");
        script.fill(2, "LIMIT:8 COMMA COMMA COMMA COMMA SELF SELF COMMA SELF SELF COMMA COMMA SELF SELF COMMA SELF SELF "
                + "COMMA COMMA COMMA SELF SELF COMMA SELF SELF COMMA COMMA SELF SELF COMMA SELF SELF");
        script.fill(3, "COMMA STRING:2 COMMA NUMBER:1000 PIPE OBJECT:0 WORD:2 RAISE");
        Checks.told(() -> bench.run(3, 0));
    }

    /** Looks at a refused call, and that all else stands as before it. */
    static void dueRefused(String what, java.util.function.ToIntFunction<FilterBench> call, String want) {
        Standing standing = new Standing();
        Checks.due(what, () -> call.applyAsInt(standing.bench), want);
        Checks.due(what + " again", () -> call.applyAsInt(standing.bench), want);
        standing.dueAll(what, COUNTS, OUTPUTS, FAULT);
    }

    /** Looks at everything; the slots, FILTERS and STRINGS are as the constructor left them. */
    void dueAll(String behind, String counts, String outputs, String fault) {
        Checks.same("counts behind " + behind, counts(), counts);
        Checks.same("slots behind " + behind, slots(), SLOTS);
        Checks.same("OUTPUTS behind " + behind, script.outputs(SHOWING_SLOT), outputs);
        bench.keep(SHOWING_SLOT, -1);
        Checks.same("FAULT behind " + behind, script.shown(SHOWING_SLOT), fault);
        Checks.same("FILTERS behind " + behind, filters(), FILTERS);
        Checks.same("STRINGS behind " + behind, strings(), STRINGS);
    }

    private String counts() {
        return bench.count(0) + " " + bench.count(1) + " " + bench.count(2) + " " + bench.count(3);
    }

    private String slots() {
        StringBuilder all = new StringBuilder(script.shown(0));
        for (int slot = 1; slot < 8; slot++) {
            all.append(' ').append(script.shown(slot));
        }
        return all.toString();
    }

    private String filters() {
        StringBuilder all = new StringBuilder(script.ranFilter(0, 1));
        all.append('|').append(script.ranFilter(1, 1));
        all.append('|').append(Checks.told(() -> bench.run(2, 1)));
        all.append('|').append(script.ranFilter(3, 1)).append('|');
        for (int filter = 0; filter < 4; filter++) {
            all.append(filter == 0 ? "" : " ").append(bench.wipe(0, filter));
        }
        return all.toString();
    }

    private String strings() {
        StringBuilder all = new StringBuilder(script.ran("COMMA COMMA COMMA STRING:0 STRING:1 COMMA STRING:2 STRING:3 "
                + "COMMA COMMA STRING:4 STRING:5 COMMA STRING:6 STRING:7", 1)).append('|');
        for (int string = 0; string < 8; string++) {
            all.append(string == 0 ? "" : " ").append(bench.wipe(1, string));
        }
        return all.toString();
    }
}
