import java.util.Arrays;
import java.util.List;

/** A FilterBench with filters and values as texts. */
final class Script {
    static final List<String> OPS = Arrays.asList(
        "SELF", "FIELD", "INDEX", "EACH", "PIPE", "COMMA", "NUMBER", "STRING", "WORD", "ARRAY", "NOTHING", "OBJECT",
        "CALC", "COMPARE", "BOTH", "EITHER", "NOT", "IF", "TRY", "OR", "BIND", "VARIABLE", "REDUCE", "LENGTH", "KEYS",
        "EMPTY", "RAISE", "SORT", "SUM", "RANGE", "ALL", "LIMIT", "HAS", "SELECT", "FLOOR");
    /** How many parts each op has. */
    static final int[] PARTS = {
        0, 0, 1, 0, 2, 2, 0, 0, 0, 1,
        0, 1, 2, 2, 2, 2, 0, 3, 2, 2,
        2, 0, 3, 0, 0, 0, 0, 0, 0, 1,
        0, 1, 1, 1, 0};
    private static final String[] STRINGS = {"a", "b", "ab", "", "c", "d", "e", "twelve chars"};
    private static final int SHOWN_SLOT = 7;

    final FilterBench bench = new FilterBench();

    /** A bench with the eight STRINGS above. */
    static Script withStrings() {
        Script script = new Script();
        for (int k = 0; k < STRINGS.length; k++) {
            script.spell(k, STRINGS[k]);
        }
        return script;
    }

    void spell(int string, String text) {
        bench.wipe(1, string);
        for (char c : text.toCharArray()) {
            bench.letter(string, c);
        }
    }

    /** Fills a filter with tokens such as "PIPE EACH FIELD:2". */
    void fill(int filter, String tokens) {
        bench.wipe(0, filter);
        for (String token : tokens.trim().split("\\s+")) {
            String[] pair = token.split(":");
            bench.token(filter, OPS.indexOf(pair[0]), pair.length == 1 ? 0 : Integer.parseInt(pair[1]));
        }
    }

    String ran(String tokens, int slot) {
        fill(0, tokens);
        return ranFilter(0, slot);
    }

    /** The outputs, then "!" and the FAULT if an ERROR ended the run; or why there are none. */
    String ranFilter(int filter, int slot) {
        String told = Checks.told(() -> bench.run(filter, slot));
        switch (told) {
            case Checks.STATE: return "no room";
            case Checks.ELEMENT: return "not right";
            case Checks.ERROR: return (outputs() + " !" + fault()).trim();
            default: return outputs();
        }
    }

    String outputs() {
        return outputs(SHOWN_SLOT);
    }

    /** All OUTPUTS, one behind the other kept in a slot. */
    String outputs(int slot) {
        StringBuilder all = new StringBuilder();
        for (int k = 0; k < bench.count(0); k++) {
            bench.keep(slot, k);
            all.append(k == 0 ? "" : " ").append(shown(slot));
        }
        return all.toString();
    }

    private String fault() {
        bench.keep(SHOWN_SLOT, -1);
        return shown(SHOWN_SLOT);
    }

    /** Runs the tokens on slot 0 and keeps the first output there. */
    void become(String tokens) {
        become(0, tokens);
    }

    /** Runs the steps, parted by ";", one behind the other on a slot and keeps the first output there. */
    void become(int slot, String steps) {
        for (String tokens : steps.split(";")) {
            fill(0, tokens);
            bench.run(0, slot);
            bench.keep(slot, 0);
        }
    }

    /** Looks at what comes of a filter on the value that the steps make; no steps make NULL. */
    static void due(String steps, String filter, String want) {
        Checks.same(filter + " on " + steps, with(steps).ran(filter, 0), want);
    }

    /** Looks at how often tokens begin to be worked out. */
    static void dueSteps(String steps, String filter, int want) {
        Script script = with(steps);
        script.ran(filter, 0);
        Checks.due("steps of " + filter + " on " + steps, () -> script.bench.count(1), want);
    }

    /** A bench with the eight STRINGS and, in slot 0, the value that the steps make. */
    static Script with(String steps) {
        Script script = withStrings();
        if (!steps.isEmpty()) {
            script.become(0, steps);
        }
        return script;
    }

    private int next;

    String shown(int slot) {
        next = 0;
        return shownPart(slot);
    }

    private String shownPart(int slot) {
        int i = next++;
        int length = bench.length(slot, i);
        switch (bench.kind(slot, i)) {
            case 0: return "null";
            case 1: return "false";
            case 2: return "true";
            case 3: return java.math.BigDecimal.valueOf(bench.number(slot, i, false), bench.number(slot, i, true))
                    .toPlainString();
            case 4: return "'" + letters(slot, i, length, false) + "'";
            case 5: return "[" + shownParts(slot, length, false) + "]";
            default: return "{" + shownParts(slot, length, true) + "}";
        }
    }

    private String shownParts(int slot, int length, boolean named) {
        StringBuilder all = new StringBuilder();
        for (int k = 0; k < length; k++) {
            all.append(k == 0 ? "" : ",").append(named ? letters(slot, next, 99, true) + ":" : "");
            all.append(shownPart(slot));
        }
        return all.toString();
    }

    private String letters(int slot, int i, int most, boolean name) {
        StringBuilder all = new StringBuilder();
        for (int k = 0; k < most; k++) {
            int at = k;
            String told = Checks.told(() -> bench.character(slot, i, at, name));
            if (told.equals(Checks.ELEMENT)) {
                return all.toString();
            }
            all.append((char) Integer.parseInt(told));
        }
        return all.toString();
    }
}
