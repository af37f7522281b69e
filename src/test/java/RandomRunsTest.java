import java.util.ArrayList;
import java.util.List;

/** Long runs of calls, drawn by a fixed rule, on FilterBench and on PlainBench: all answers must be the same. */
public final class RandomRunsTest {
    private static final int OBJECTS = 3000;
    private static final int CALLS = 512;
    private static final int[] CHOICES = {
        0, 8, 0, 0, 0, 0, 0, 8, 3, 0,
        0, 8, 4, 6, 0, 0, 0, 0, 0, 0,
        4, 4, 4, 0, 0, 0, 0, 0, 0, 0,
        0, 10, 0, 0, 0};
    private static final int[] EDGES = {
        0, 1, -1, 2, 999999999, 1000000000, -999999999, 2147483647, -2147483648, 2147483000, 12000, 16000, 17000};

    private long seed;
    private final int object;
    private int calls;
    private FilterBench bench;
    private PlainBench plain;
    private final List<String> log = new ArrayList<>();
    private static final int[] tally = new int[5];
    private boolean spoiled;

    private RandomRunsTest(int object) {
        this.object = object;
        seed = 88172645463325252L + 7919L * object;
    }

    private int draw(int end) {
        seed = seed * 6364136223846793005L + 1442695040888963407L;
        return (int) ((seed >>> 33) % end);
    }

    private boolean seldom(int oneIn) {
        return draw(oneIn) == 0;
    }

    /**
     * Mostly a number below the end, now and then one out of range, but one in a call at most: which of two refusals
     * comes first is not said.
     */
    private int number(int end) {
        if (spoiled || !seldom(60)) {
            return draw(end);
        }
        spoiled = true;
        return seldom(2) ? -1 - draw(3) : end + draw(3);
    }

    private int numberIf(boolean free, int end) {
        return free ? number(end) : draw(end);
    }

    private String both(String call, Checks.Call ofBench, Checks.Call ofPlain) {
        calls++;
        spoiled = false;
        String got = Checks.told(ofBench);
        String want = Checks.told(ofPlain);
        log.add(call + " -> " + want);
        int before = Checks.wrong();
        Checks.same("object " + object + ", call " + calls + ": " + call, got, want);
        if (before == 0 && Checks.wrong() == 1) {
            log.forEach(System.out::println);
        }
        return want;
    }

    private String token(int filter, int op, int a) {
        return both("token(" + filter + ", " + op + ", " + a + ")",
                () -> bench.token(filter, op, a), () -> plain.token(filter, op, a));
    }

    private void wipe(int what, int number) {
        both("wipe(" + what + ", " + number + ")",
                () -> bench.wipe(what, number), () -> plain.wipe(what, number));
    }

    private String keep(int slot, int k) {
        return both("keep(" + slot + ", " + k + ")", () -> bench.keep(slot, k), () -> plain.keep(slot, k));
    }

    private void count(int what) {
        both("count(" + what + ")", () -> bench.count(what), () -> plain.count(what));
    }

    private void letter() {
        int string = number(8);
        boolean free = !spoiled && !plain.isSpelled(string);
        int character = free && seldom(20) ? draw(140) : 97 + draw(3);
        both("letter(" + string + ", " + character + ")",
                () -> bench.letter(string, character), () -> plain.letter(string, character));
    }

    /** Tokens of an expression that may be RIGHT: the deeper, the likelier one without parts. */
    private void expression(List<int[]> tokens, int outer, int deepest) {
        int op = draw(35);
        for (int tries = 0; tries < 40 && (Script.PARTS[op] > 0) != (outer < deepest && draw(10) < 7); tries++) {
            op = draw(35);
        }
        int a = CHOICES[op] > 0 ? draw(CHOICES[op]) : op == 6 ? drawNumber() : draw(5) - 2;
        tokens.add(new int[] {op, a});
        for (int k = 0; k < Script.PARTS[op]; k++) {
            expression(tokens, outer + 1, deepest);
        }
    }

    private int drawNumber() {
        switch (draw(8)) {
            case 0: return EDGES[draw(EDGES.length)];
            case 1: return draw(40000) - 20000;
            case 2: return draw(2147483647) - 1000000000;
            case 3: return (draw(200) - 100) * 100;
            default: return draw(14) * 1000;
        }
    }

    private void fill(int filter) {
        List<int[]> tokens = new ArrayList<>();
        for (int tries = 0; tries < 20 && (tokens.isEmpty() || tokens.size() > 24); tries++) {
            tokens.clear();
            expression(tokens, 0, 1 + draw(5));
        }
        if (seldom(30)) {
            tokens.remove(tokens.size() - 1);
        }
        if (seldom(30)) {
            tokens.add(new int[] {number(35), number(4)});
        }
        wipe(0, filter);
        for (int[] token : tokens) {
            if (calls >= CALLS) {
                return;
            }
            token(filter, token[0], token[1]);
        }
    }

    /** A filter that makes an ARRAY or an OBJECT with the old value of its slot somewhere in it, and keeps it. */
    private void grow() {
        int filter = draw(4);
        int slot = draw(8);
        boolean object = seldom(2);
        int items = 2 + draw(4);
        wipe(0, filter);
        if (!object) {
            token(filter, 9, 0);
        }
        for (int k = 1; k <= items; k++) {
            if (k < items) {
                token(filter, object ? 12 : 5, 0);
            }
            if (object) {
                token(filter, 11, draw(8));
            }
            literal(filter);
        }
        run(filter, slot);
        if (plain.count(0) > 0) {
            keep(slot, 0);
        }
    }

    private void literal(int filter) {
        switch (draw(8)) {
            case 0: case 1: token(filter, 7, draw(8)); break;
            case 2: token(filter, 8, draw(3)); break;
            case 3: case 4: token(filter, 0, 0); break;
            case 5: token(filter, 10, 0); break;
            default: token(filter, 6, drawNumber()); break;
        }
    }

    private void run(int filter, int slot) {
        if (!plain.isSure(filter, slot)) {
            tally[4]++;
            return;
        }
        String answer = both("run(" + filter + ", " + slot + ")",
                () -> bench.run(filter, slot), () -> plain.run(filter, slot));
        tally[answer.equals(Checks.ERROR) ? 1 : answer.equals(Checks.STATE) ? 2 : answer.startsWith("t") ? 3 : 0]++;
        for (int what = seldom(40) ? -1 : 0; what < 4; what++) {
            count(what);
        }
        if (seldom(40)) {
            count(4);
        }
        int outputs = plain.count(0);
        int slotKept = number(8);
        if (outputs > 0 && seldom(2)) {
            lookAt(slotKept, keep(slotKept, draw(outputs)));
        }
        if (answer.equals(Checks.ERROR) || seldom(10)) {
            keep(number(8), -1);
        }
        if (seldom(20)) {
            int k = outputs - 1 + draw(3);
            keep(numberIf(k < outputs, 8), k);
        }
    }

    private void lookAt(int slot, String size) {
        int parts = size.startsWith("t") ? 1 : Integer.parseInt(size);
        for (int looks = 0; looks < 3; looks++) {
            int i = numberIf(slot >= 0 && slot < 8, parts);
            both("kind(" + slot + ", " + i + ")", () -> bench.kind(slot, i), () -> plain.kind(slot, i));
            both("length(" + slot + ", " + i + ")", () -> bench.length(slot, i), () -> plain.length(slot, i));
            boolean flag = seldom(2);
            both("number(" + slot + ", " + i + ", " + flag + ")",
                    () -> bench.number(slot, i, flag), () -> plain.number(slot, i, flag));
            int k = number(3);
            both("character(" + slot + ", " + i + ", " + k + ", " + flag + ")",
                    () -> bench.character(slot, i, k, flag), () -> plain.character(slot, i, k, flag));
        }
    }

    private void order() {
        int a = number(8);
        int b = number(8);
        both("order(" + a + ", " + b + ")", () -> bench.order(a, b), () -> plain.order(a, b));
    }

    private void runs() {
        for (int k = 0; k < 3; k++) {
            int filter = number(4);
            run(filter, numberIf(!spoiled && plain.isRight(filter), 8));
        }
        if (seldom(10)) {
            int filter = number(4);
            boolean free = !spoiled && !plain.isFull(filter);
            token(filter, free ? number(35) : 0, free ? number(4) : 0);
        }
    }

    private void all() {
        bench = new FilterBench();
        plain = new PlainBench();
        for (int k = 0; k < 10; k++) {
            letter();
        }
        while (calls < CALLS - 100) {
            switch (draw(12)) {
                case 0: letter(); break;
                case 1: wipe(number(2), number(8)); break;
                case 2: case 3: order(); break;
                case 4: case 5: grow(); break;
                case 6: case 7: case 8: fill(draw(4)); break;
                default: runs(); break;
            }
        }
    }

    public static void main(String[] args) {
        for (int object = 0; object < OBJECTS; object++) {
            new RandomRunsTest(object).all();
        }
        System.out.println("runs that ended well " + tally[0] + ", by an ERROR " + tally[1] + ", without ROOM " + tally[2]
                + ", refused " + tally[3] + ", not made because the document can be read in two ways " + tally[4]);
        Checks.end();
    }
}
