import java.util.ArrayList;
import java.util.List;

/**
 * Filters as deep as they may be, each token with parts inside of each other one, as each of its parts: FilterBench and
 * PlainBench must answer the same. Runs that the document's words answer in two ways are not made.
 */
public final class DeepFiltersTest {
    private static final int MOST_OUTER = 7;
    private static final int SHOWN_SLOT = 7;
    private static final int[] SELF = {0, 0};
    private static final int[] EACH = {3, 0};
    private static final int[][] LEAVES = {SELF, EACH, {6, 1000}, {21, 0}};
    /** Filters that make the values of slots 1 and 2: [0, 1], and the OBJECT with [] for an empty name. */
    private static final int[][][] MADE = {{{9, 0}, {29, 0}, {6, 2000}}, {{11, 0}, {10, 0}}};

    /** One part of a token: which op, and which of its parts goes on. */
    private record Way(int op, int which) {
    }

    private final FilterBench bench = new FilterBench();
    private final PlainBench plain = new PlainBench();
    private final String name;

    private DeepFiltersTest(String name) {
        this.name = name;
        for (int k = 0; k < MADE.length; k++) {
            fill(1 + k, List.of(MADE[k]));
            bench.run(1 + k, 0);
            plain.run(1 + k, 0);
            bench.keep(1 + k, 0);
            plain.keep(1 + k, 0);
        }
    }

    private void fill(int filter, List<int[]> tokens) {
        for (int[] token : tokens) {
            bench.token(filter, token[0], token[1]);
            plain.token(filter, token[0], token[1]);
        }
    }

    private void same(String call, Checks.Call ofBench, Checks.Call ofPlain) {
        Checks.due(name + ": " + call, ofBench, Checks.told(ofPlain));
    }

    private void run(int slot) {
        if (!plain.isSure(0, slot)) {
            return;
        }
        same("run(0, " + slot + ")", () -> bench.run(0, slot), () -> plain.run(0, slot));
        for (int k = 0; k < 4; k++) {
            int what = k;
            same("count(" + what + ")", () -> bench.count(what), () -> plain.count(what));
        }
        for (int k = -1; k < plain.count(0); k++) {
            int output = k;
            same("keep(7, " + k + ")", () -> bench.keep(SHOWN_SLOT, output), () -> plain.keep(SHOWN_SLOT, output));
            lookAt(plain.keep(SHOWN_SLOT, output));
        }
    }

    private void lookAt(int size) {
        for (int part = 0; part < size; part++) {
            int i = part;
            same("kind(7, " + i + ")", () -> bench.kind(SHOWN_SLOT, i), () -> plain.kind(SHOWN_SLOT, i));
            same("length(7, " + i + ")", () -> bench.length(SHOWN_SLOT, i), () -> plain.length(SHOWN_SLOT, i));
            same("number(7, " + i + ", false)",
                    () -> bench.number(SHOWN_SLOT, i, false), () -> plain.number(SHOWN_SLOT, i, false));
        }
    }

    /** An expression inside of so many others, each of the ways in turn; the leaves are the parts beside. */
    private static void nest(List<int[]> tokens, Way[] ways, int outer, int[] beside, int[] last) {
        if (outer == MOST_OUTER) {
            tokens.add(last);
            return;
        }
        Way way = ways[outer];
        tokens.add(new int[] {way.op, way.op == 31 ? 9 : 0});
        for (int part = 0; part < Script.PARTS[way.op]; part++) {
            if (part == way.which) {
                nest(tokens, ways, outer + 1, beside, last);
            } else {
                tokens.add(beside);
            }
        }
    }

    private static void runs(String name, Way[] ways) {
        for (int[] beside : LEAVES) {
            for (int[] last : new int[][] {SELF, EACH}) {
                List<int[]> tokens = new ArrayList<>();
                nest(tokens, ways, 0, beside, last);
                DeepFiltersTest test = new DeepFiltersTest(name + ", ops " + beside[0] + " and " + last[0]);
                test.fill(0, tokens);
                for (int slot = 0; slot <= MADE.length; slot++) {
                    test.run(slot);
                }
            }
        }
    }

    private static List<Way> ways() {
        List<Way> all = new ArrayList<>();
        for (int op = 0; op < Script.PARTS.length; op++) {
            for (int which = 0; which < Script.PARTS[op]; which++) {
                all.add(new Way(op, which));
            }
        }
        return all;
    }

    public static void main(String[] args) {
        for (Way outer : ways()) {
            for (Way inner : ways()) {
                runs(outer + " six times, " + inner, new Way[] {outer, outer, outer, outer, outer, outer, inner});
                runs(outer + " and " + inner + " in turn", new Way[] {outer, inner, outer, inner, outer, inner, outer});
            }
        }
        Checks.end();
    }
}
