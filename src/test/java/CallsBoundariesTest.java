import java.util.function.ToIntFunction;

/** The boundaries that the promises 1 to 12 name: a test for each sentence. */
public final class CallsBoundariesTest {
    private static final int MANY = 2147483647;
    private static final int FEW = -2147483648;
    private static final int[] BAD_OF_8 = {-1, 8, MANY, FEW};
    private static final int[] BAD_OF_4 = {-1, 4, MANY, FEW};
    private static final String GREATEST = "CALC:0 CALC:2 NUMBER:999999000 NUMBER:1000000 NUMBER:999000";
    private static final String SIX_MEMBERS = "CALC:0 CALC:0 OBJECT:0 SELF OBJECT:2 SELF CALC:0 CALC:0 OBJECT:1 SELF "
            + "OBJECT:4 SELF CALC:0 OBJECT:5 SELF OBJECT:6 SELF";
    /** An ARRAY of SIZE 24: two ARRAYS of ten NUMBERS and a TEXT. */
    private static final String SIZE_24 = "ARRAY RANGE NUMBER:10000;ARRAY COMMA SELF COMMA SELF STRING:7";

    private static void refused(String what, ToIntFunction<FilterBench> call, String want) {
        Standing.dueRefused(what, call, want);
    }

    // Promise 1

    private static void stateAtFirst() {
        FilterBench x = new FilterBench();
        for (int k = 0; k < 8; k++) {
            int n = k;
            Checks.due("kind of slot " + n, () -> x.kind(n, 0), 0);
            Checks.due("part 1 of slot " + n, () -> x.kind(n, 1), Checks.ELEMENT);
            Checks.due("order of slots 0 and " + n, () -> x.order(0, n), 0);
        }
        for (int k = 0; k < 4; k++) {
            int n = k;
            Checks.due("count(" + n + ")", () -> x.count(n), 0);
            Checks.due("run of filter " + n, () -> x.run(n, 0), Checks.ELEMENT);
            Checks.due("wipe of filter " + n, () -> x.wipe(0, n), 0);
        }
        for (int k = 0; k < 8; k++) {
            int n = k;
            Checks.due("wipe of STRING " + n, () -> x.wipe(1, n), 0);
            Checks.due("first letter of STRING " + n, () -> x.letter(n, 'a'), 1);
        }
    }

    private static void objectsApart() {
        Standing standing = new Standing();
        FilterBench other = new FilterBench();
        other.letter(0, 'z');
        other.token(0, 26, 0);
        Checks.due("run of another object", () -> other.run(0, 0), Checks.ERROR);
        standing.dueAll("calls of another object", Standing.COUNTS, Standing.OUTPUTS, Standing.FAULT);
        stateAtFirst();
    }

    private static void calls512() {
        FilterBench x = new FilterBench();
        x.token(0, 9, 0);
        x.token(0, 29, 0);
        x.token(0, 6, 12000);
        x.token(1, 26, 0);
        x.token(2, 29, 0);
        x.token(2, 6, 17000);
        for (int call = 7; call <= 502; call += 4) {
            Checks.due("call " + call + ": run", () -> x.run(0, 0), 1);
            Checks.due("call " + (call + 1) + ": keep", () -> x.keep(3, 0), 13);
            Checks.due("call " + (call + 2) + ": run", () -> x.run(1, 3), Checks.ERROR);
            Checks.due("call " + (call + 3) + ": run", () -> x.run(2, 0), Checks.STATE);
        }
        Checks.due("call 503: count", () -> x.count(3), 124);
        Checks.due("call 504: count", () -> x.count(2), 124);
        Checks.due("call 505: letter", () -> x.letter(7, 'a'), 1);
        Checks.due("call 506: run", () -> x.run(0, 3), 1);
        Checks.due("call 507: keep", () -> x.keep(0, 0), 13);
        Checks.due("call 508: kind", () -> x.kind(0, 12), 3);
        Checks.due("call 509: number", () -> x.number(0, 12, false), 11);
        Checks.due("call 510: order", () -> x.order(0, 3), 0);
        Checks.due("call 511: wipe", () -> x.wipe(0, 0), 3);
        Checks.due("call 512: run", () -> x.run(0, 0), Checks.ELEMENT);
    }

    // Promise 2

    private static void letterRanges() {
        for (int string = 0; string < 8; string++) {
            int n = string;
            FilterBench x = new FilterBench();
            Checks.due("letter(" + n + ", 32)", () -> x.letter(n, 32), 1);
            Checks.due("letter(" + n + ", 126)", () -> x.letter(n, 126), 2);
            x.token(0, 7, n);
            x.run(0, 0);
            x.keep(0, 0);
            Checks.due("character 0 of STRING " + n, () -> x.character(0, 0, 0, false), 32);
            Checks.due("character 1 of STRING " + n, () -> x.character(0, 0, 1, false), 126);
        }
        for (int character = 32; character <= 126; character++) {
            int c = character;
            Checks.due("letter(0, " + c + ")", () -> new FilterBench().letter(0, c), 1);
        }
    }

    private static void letterOutOfRange() {
        for (int bad : BAD_OF_8) {
            refused("letter(" + bad + ", 97)", x -> x.letter(bad, 97), Checks.ARGUMENT);
        }
        for (int bad : new int[] {31, 127, 0, -1, 255, 256 + 97, MANY, FEW}) {
            refused("letter(3, " + bad + ")", x -> x.letter(3, bad), Checks.ARGUMENT);
        }
    }

    private static void letterFull() {
        FilterBench x = new FilterBench();
        for (int k = 1; k <= 12; k++) {
            Checks.due("letter " + k, () -> x.letter(4, 'x'), k);
        }
        Checks.due("letter 13", () -> x.letter(4, 'y'), Checks.STATE);
        Checks.due("letter of another STRING", () -> x.letter(5, 'y'), 1);
        Checks.due("wipe", () -> x.wipe(1, 4), 12);
        Checks.due("letter behind wipe", () -> x.letter(4, 'y'), 1);
        refused("letter(7, 97)", y -> y.letter(7, 97), Checks.STATE);
    }

    // Promise 3

    private static void tokenRanges() {
        for (int filter = 0; filter < 4; filter++) {
            int n = filter;
            FilterBench x = new FilterBench();
            Checks.due("token(" + n + ", 0, 0)", () -> x.token(n, 0, 0), 1);
            Checks.due("token(" + n + ", 34, 0)", () -> x.token(n, 34, 0), 2);
            Checks.due("wipe(0, " + n + ")", () -> x.wipe(0, n), 2);
        }
        for (int bad : BAD_OF_4) {
            refused("token(" + bad + ", 0, 0)", x -> x.token(bad, 0, 0), Checks.ARGUMENT);
        }
        for (int bad : new int[] {-1, 35, 36, 38, 64, MANY, FEW}) {
            refused("token(0, " + bad + ", 0)", x -> x.token(0, bad, 0), Checks.ARGUMENT);
        }
    }

    /** Just inside and just outside of the range 0 .. last of a for one op. */
    private static void choices(int op, int last) {
        for (int right = 0; right <= last; right++) {
            int a = right;
            Checks.due("token(0, " + op + ", " + a + ")", () -> new FilterBench().token(0, op, a), 1);
        }
        for (int bad : new int[] {-1, last + 1, MANY, FEW}) {
            refused("token(0, " + op + ", " + bad + ")", x -> x.token(0, op, bad), Checks.ARGUMENT);
        }
    }

    private static void choicesOfStrings() {
        choices(1, 7);
        choices(7, 7);
        choices(11, 7);
    }

    private static void choicesOfVariables() {
        choices(20, 3);
        choices(21, 3);
        choices(22, 3);
    }

    private static void anyChoices() {
        int[] ops = {0, 2, 3, 4, 5, 6, 9, 10, 14, 15, 16, 17, 18, 19, 23, 24, 25, 26, 27, 28, 29, 30, 32, 33, 34};
        for (int op : ops) {
            for (int a : new int[] {FEW, -1, 0, 1, 4, 8, 10, MANY}) {
                Checks.due("token(0, " + op + ", " + a + ")", () -> new FilterBench().token(0, op, a), 1);
            }
        }
        Script script = Script.withStrings();
        Checks.same("a says nothing there", script.ran("COMMA:-1 SELF:99 EACH:8", 0), "null !1");
    }

    private static void tokenFull() {
        FilterBench x = new FilterBench();
        for (int k = 1; k <= 32; k++) {
            Checks.due("token " + k, () -> x.token(3, 0, 0), k);
        }
        Checks.due("token 33", () -> x.token(3, 0, 0), Checks.STATE);
        Checks.due("token of another filter", () -> x.token(2, 0, 0), 1);
        Checks.due("wipe", () -> x.wipe(0, 3), 32);
        Checks.due("token behind wipe", () -> x.token(3, 0, 0), 1);
        Checks.due("run behind wipe", () -> x.run(3, 0), 1);
        refused("token(2, 0, 0)", y -> y.token(2, 0, 0), Checks.STATE);
    }

    // Promise 4

    private static void wipes() {
        FilterBench x = new FilterBench();
        for (int k = 0; k < 4; k++) {
            int n = k;
            Checks.due("wipe of no token", () -> x.wipe(0, n), 0);
            x.token(n, 0, 0);
            Checks.due("wipe of 1 token", () -> x.wipe(0, n), 1);
            Checks.due("run of a wiped filter", () -> x.run(n, 0), Checks.ELEMENT);
            for (int tokens = 0; tokens < 32; tokens++) {
                x.token(n, 0, 0);
            }
            Checks.due("wipe of 32 tokens", () -> x.wipe(0, n), 32);
            Checks.due("wipe of a wiped filter", () -> x.wipe(0, n), 0);
        }
        for (int k = 0; k < 8; k++) {
            int n = k;
            Checks.due("wipe of no character", () -> x.wipe(1, n), 0);
            x.letter(n, 'a');
            Checks.due("wipe of 1 character", () -> x.wipe(1, n), 1);
            for (int letters = 0; letters < 12; letters++) {
                x.letter(n, 'a');
            }
            Checks.due("wipe of 12 characters", () -> x.wipe(1, n), 12);
            Checks.due("wipe of a wiped STRING", () -> x.wipe(1, n), 0);
        }
    }

    private static void wipesLeaveOthers() {
        Standing standing = new Standing();
        FilterBench x = standing.bench;
        // Filter 1 and STRING 3 are put back as they were.
        Checks.due("wipe(0, 1)", () -> x.wipe(0, 1), 2);
        Checks.due("run(1, 0)", () -> x.run(1, 0), Checks.ELEMENT);
        standing.script.fill(1, "PIPE SELF");
        x.letter(3, 'a');
        Checks.due("wipe(1, 3)", () -> x.wipe(1, 3), 1);
        standing.dueAll("wipes", Standing.COUNTS, Standing.OUTPUTS, Standing.FAULT);
    }

    private static void wipesOutOfRange() {
        for (int bad : BAD_OF_4) {
            refused("wipe(0, " + bad + ")", x -> x.wipe(0, bad), Checks.ARGUMENT);
        }
        refused("wipe(0, 7)", x -> x.wipe(0, 7), Checks.ARGUMENT);
        for (int bad : BAD_OF_8) {
            refused("wipe(1, " + bad + ")", x -> x.wipe(1, bad), Checks.ARGUMENT);
        }
        for (int bad : new int[] {-1, 2, MANY, FEW}) {
            refused("wipe(" + bad + ", 0)", x -> x.wipe(bad, 0), Checks.ARGUMENT);
        }
    }

    // Promise 5

    private static void runRanges() {
        for (int filter = 0; filter < 4; filter++) {
            int f = filter;
            Script script = Script.withStrings();
            script.fill(f, "COMMA SELF NUMBER:" + 1000 * f);
            for (int slot = 0; slot < 8; slot++) {
                int s = slot;
                Checks.due("run(" + f + ", " + s + ")", () -> script.bench.run(f, s), 2);
            }
            Checks.same("OUTPUTS", script.outputs(), "null " + f);
        }
        for (int bad : BAD_OF_4) {
            refused("run(" + bad + ", 0)", x -> x.run(bad, 0), Checks.ARGUMENT);
        }
        for (int bad : BAD_OF_8) {
            refused("run(0, " + bad + ")", x -> x.run(0, bad), Checks.ARGUMENT);
        }
    }

    private static void runOutputs() {
        Script script = Script.withStrings();
        for (int n = 0; n <= 16; n++) {
            int values = n;
            script.fill(0, "RANGE NUMBER:" + 1000 * n);
            Checks.due("run of " + n + " values", () -> script.bench.run(0, 0), n);
            Checks.due("count(0) of " + n + " values", () -> script.bench.count(0), n);
            Checks.due("OUTPUT behind " + n + " values", () -> script.bench.keep(1, values), Checks.ELEMENT);
            if (n > 0) {
                Checks.due("last of " + n + " values", () -> script.bench.keep(1, values - 1), 1);
                Checks.due("its number", () -> script.bench.number(1, 0, false), n - 1);
            }
        }
        // The value of the slot that is run on stays, and so do all others.
        Standing standing = new Standing();
        Checks.due("run(0, 0)", () -> standing.bench.run(0, 0), 2);
        standing.dueAll("a run that ends well", "2 2 1 1", "0 1", "null");
    }

    private static void runNotRight() {
        refused("run(1, 0) of a token without its parts", x -> x.run(1, 0), Checks.ELEMENT);
        FilterBench x = new FilterBench();
        Checks.due("run of no token", () -> x.run(0, 0), Checks.ELEMENT);
        x.token(0, 4, 0);
        Checks.due("run of PIPE", () -> x.run(0, 0), Checks.ELEMENT);
        x.token(0, 0, 0);
        Checks.due("run of PIPE SELF", () -> x.run(0, 0), Checks.ELEMENT);
        Checks.due("counts of what was never run", () -> x.count(1), 0);
        x.token(0, 0, 0);
        Checks.due("run of PIPE SELF SELF", () -> x.run(0, 0), 1);
        x.token(0, 0, 0);
        Checks.due("run of PIPE SELF SELF SELF", () -> x.run(0, 0), Checks.ELEMENT);
        Checks.due("OUTPUTS behind it", () -> x.count(0), 1);
        Checks.due("steps behind it", () -> x.count(1), 3);
        Checks.due("keep behind it", () -> x.keep(0, 0), 1);
        x.token(1, 29, 0);
        x.token(1, 6, 17000);
        Checks.due("run without ROOM", () -> x.run(1, 0), Checks.STATE);
        Checks.due("run of PIPE SELF SELF SELF behind it", () -> x.run(0, 0), Checks.ELEMENT);
        dueCounts(x, "behind that", 0, 0, 0, 1);
    }

    private static void runErrors() {
        Standing standing = new Standing();
        Checks.due("run(3, 0)", () -> standing.bench.run(3, 0), Checks.ERROR);
        standing.dueAll("a run that an ERROR ends", "2 8 2 1", Standing.OUTPUTS, Standing.FAULT);
        String[] filters = {"COMMA NUMBER:5000 EACH", "COMMA NUMBER:5000 CALC:3 NUMBER:1000 NUMBER:0",
            "COMMA NUMBER:5000 PIPE STRING:7 RAISE"};
        String[] values = {"1", "2", "'twelve chars'"};
        for (int k = 0; k < filters.length; k++) {
            Standing other = new Standing();
            other.script.fill(0, filters[k]);
            Checks.due("run of " + filters[k], () -> other.bench.run(0, 1), Checks.ERROR);
            other.script.fill(0, "RANGE NUMBER:2000");
            other.dueAll(filters[k], "1 " + filters[k].split(" ").length + " 2 1", "5", values[k]);
        }
        Script script = Script.withStrings();
        Checks.same("no values before", script.ran("RAISE", 0), "!null");
        Checks.due("count(0)", () -> script.bench.count(0), 0);
        Checks.due("keep of OUTPUT 0", () -> script.bench.keep(1, 0), Checks.ELEMENT);
        Checks.same("one value before", script.ran("COMMA STRING:0 PIPE STRING:1 RAISE", 0), "'a' !'b'");
        Checks.due("keep of OUTPUT 1", () -> script.bench.keep(1, 1), Checks.ELEMENT);
        Script.due("", "COMMA RANGE NUMBER:16000 RAISE", "0 1 2 3 4 5 6 7 8 9 10 11 12 13 14 15 !null");
        Script greatest = Script.with(SIZE_24);
        greatest.fill(0, "RAISE");
        Checks.due("run with a great FAULT", () -> greatest.bench.run(0, 0), Checks.ERROR);
        Checks.due("SIZE of the FAULT", () -> greatest.bench.keep(1, -1), 24);
        Checks.due("order of the FAULT", () -> greatest.bench.order(0, 1), 0);
    }

    private static void runWithoutRoom() {
        String[] roomless = {
            "COMMA SELF RANGE NUMBER:17000", "COMMA SELF NUMBER:1000000001", "COMMA SELF CALC:0 STRING:7 STRING:0",
            "COMMA SELF ARRAY RANGE NUMBER:13000", "COMMA SELF ARRAY ARRAY ARRAY ARRAY ARRAY NOTHING",
            "COMMA SELF PIPE ARRAY RANGE NUMBER:12000 ARRAY COMMA SELF SELF",
            "COMMA SELF REDUCE:0 RANGE NUMBER:16000 SELF CALC:0 RANGE NUMBER:4000 RANGE NUMBER:4000"};
        for (String filter : roomless) {
            Standing standing = new Standing();
            standing.script.fill(0, filter);
            Checks.due("run of " + filter, () -> standing.bench.run(0, 0), Checks.STATE);
            for (int k = 0; k < 3; k++) {
                int n = k;
                Checks.due("keep of OUTPUT " + n, () -> standing.bench.keep(1, n), Checks.ELEMENT);
            }
            standing.script.fill(0, "RANGE NUMBER:2000");
            standing.dueAll(filter, "0 0 1 2", "", "null");
        }
    }

    private static void faults() {
        Script script = Script.withStrings();
        dueFault(script, "at first", 0);
        script.ran("RAISE", 0);
        script.ran("PIPE STRING:0 RAISE", 0);
        dueFault(script, "behind an ERROR", 4);
        script.ran("SELF", 1);
        dueFault(script, "behind a run that ends well", 0);
        script.ran("PIPE STRING:0 RAISE", 0);
        script.ran("EMPTY", 1);
        dueFault(script, "behind a run of no value", 0);
        script.ran("PIPE STRING:0 RAISE", 0);
        script.ran("RANGE NUMBER:17000", 1);
        dueFault(script, "behind a run without ROOM", 0);
        script.ran("TRY PIPE STRING:0 RAISE SELF", 1);
        dueFault(script, "behind an ERROR that was caught", 0);
        script.ran("PIPE STRING:0 RAISE", 0);
        script.ran("PIPE SELF", 1);
        dueFault(script, "behind a filter that is not RIGHT", 4);
    }

    private static void dueFault(Script script, String when, int kind) {
        Checks.due("SIZE of the FAULT " + when, () -> script.bench.keep(2, -1), 1);
        Checks.due("kind of the FAULT " + when, () -> script.bench.kind(2, 0), kind);
    }

    // Promise 6

    private static void keeps() {
        Script script = Script.with(SIZE_24);
        script.fill(0, "COMMA SELF COMMA NUMBER:1000 COMMA OBJECT:7 SELF RAISE");
        FilterBench x = script.bench;
        script.fill(1, "COMMA SELF COMMA NUMBER:1000 COMMA OBJECT:7 NUMBER:0 RAISE");
        Checks.due("run that is too big", () -> x.run(0, 0), Checks.STATE);
        Checks.due("run", () -> x.run(1, 0), Checks.ERROR);
        for (int slot = 1; slot < 8; slot++) {
            int n = slot;
            Checks.due("keep(" + n + ", 0)", () -> x.keep(n, 0), 24);
            Checks.due("order(0, " + n + ")", () -> x.order(0, n), 0);
            Checks.due("keep(" + n + ", 1)", () -> x.keep(n, 1), 1);
            Checks.due("keep(" + n + ", 2)", () -> x.keep(n, 2), 2);
            Checks.due("keep(" + n + ", -1)", () -> x.keep(n, -1), 24);
        }
        Checks.due("keep(0, 2)", () -> x.keep(0, 2), 2);
        Checks.due("kind(0, 0)", () -> x.kind(0, 0), 6);
        Checks.due("kind(7, 0)", () -> x.kind(7, 0), 5);
    }

    private static void keepOfOutputsThatStay() {
        Script script = Script.withStrings();
        script.fill(0, "COMMA STRING:7 ARRAY SELF");
        FilterBench x = script.bench;
        x.run(0, 0);
        x.wipe(1, 7);
        x.letter(7, 'z');
        x.wipe(0, 0);
        Checks.due("keep(0, 1)", () -> x.keep(0, 1), 2);
        Checks.due("keep(1, 0)", () -> x.keep(1, 0), 1);
        Checks.due("keep(2, 1)", () -> x.keep(2, 1), 2);
        Checks.same("slots", script.shown(0) + script.shown(1) + script.shown(2), "[null]'twelve chars'[null]");
        Checks.due("count(0)", () -> x.count(0), 2);
        script.ran("NUMBER:1000", 3);
        Checks.same("slots behind a run", script.shown(0) + script.shown(1) + script.shown(2),
                "[null]'twelve chars'[null]");
    }

    private static void keepRefused() {
        for (int bad : BAD_OF_8) {
            refused("keep(" + bad + ", 0)", x -> x.keep(bad, 0), Checks.ARGUMENT);
            refused("keep(" + bad + ", -1)", x -> x.keep(bad, -1), Checks.ARGUMENT);
        }
    }

    private static void keepOfNoOutput() {
        for (int bad : new int[] {-2, 2, 3, 16, MANY, FEW}) {
            refused("keep(0, " + bad + ")", x -> x.keep(0, bad), Checks.ELEMENT);
        }
        FilterBench x = new FilterBench();
        Checks.due("keep of an OUTPUT before any run", () -> x.keep(0, 0), Checks.ELEMENT);
        Checks.due("keep of the FAULT before any run", () -> x.keep(0, -1), 1);
        x.token(0, 29, 0);
        x.token(0, 6, 16000);
        x.run(0, 0);
        Checks.due("keep of OUTPUT 15", () -> x.keep(0, 15), 1);
        Checks.due("keep of OUTPUT 16", () -> x.keep(0, 16), Checks.ELEMENT);
        x.wipe(0, 0);
        x.token(0, 25, 0);
        x.run(0, 0);
        Checks.due("keep of OUTPUT 0 of none", () -> x.keep(0, 0), Checks.ELEMENT);
    }

    // Promises 7 to 10

    /** The kinds of all PARTS of the slot's value, and the refusals before the first and behind the last. */
    private static void dueParts(String steps, int... kinds) {
        Script script = Script.with(steps);
        FilterBench x = script.bench;
        for (int k = 0; k < kinds.length; k++) {
            int i = k;
            Checks.due("kind(0, " + i + ") of " + steps, () -> x.kind(0, i), kinds[i]);
        }
        for (int bad : new int[] {-1, kinds.length, MANY, FEW}) {
            Checks.due("kind(0, " + bad + ") of " + steps, () -> x.kind(0, bad), Checks.ELEMENT);
            Checks.due("length(0, " + bad + ") of " + steps, () -> x.length(0, bad), Checks.ELEMENT);
            Checks.due("number(0, " + bad + ", false) of " + steps, () -> x.number(0, bad, false), Checks.ELEMENT);
            Checks.due("number(0, " + bad + ", true) of " + steps, () -> x.number(0, bad, true), Checks.ELEMENT);
            Checks.due("character(0, " + bad + ", 0, false) of " + steps, () -> x.character(0, bad, 0, false),
                    Checks.ELEMENT);
            Checks.due("character(0, " + bad + ", 0, true) of " + steps, () -> x.character(0, bad, 0, true),
                    Checks.ELEMENT);
        }
    }

    private static void parts() {
        dueParts("WORD:0", 0);
        dueParts("WORD:1", 1);
        dueParts("WORD:2", 2);
        dueParts("NUMBER:1000", 3);
        dueParts("STRING:7", 4);
        dueParts("NOTHING", 5);
        dueParts("ARRAY NOTHING", 5, 5);
        dueParts("OBJECT:0 WORD:2", 6, 2);
        dueParts(SIX_MEMBERS, 6, 0, 0, 0, 0, 0, 0);
        dueParts("ARRAY COMMA ARRAY COMMA WORD:1 NUMBER:0 COMMA STRING:0 OBJECT:0 NOTHING", 5, 5, 1, 3, 4, 6, 5);
        dueParts("CALC:0 OBJECT:1 WORD:2 OBJECT:0 ARRAY COMMA STRING:0 NUMBER:0", 6, 5, 4, 3, 2);
        dueParts("ARRAY ARRAY ARRAY ARRAY ARRAY WORD:2", 5, 5, 5, 5, 5, 2);
        dueParts("OBJECT:0 OBJECT:1 OBJECT:0 OBJECT:1 OBJECT:0 WORD:1", 6, 6, 6, 6, 6, 1);
        dueParts(SIZE_24, 5, 5, 3, 3, 3, 3, 3, 3, 3, 3, 3, 3, 5, 3, 3, 3, 3, 3, 3, 3, 3, 3, 3, 4);
    }

    private static void partsRefused() {
        for (int bad : BAD_OF_8) {
            refused("kind(" + bad + ", 0)", x -> x.kind(bad, 0), Checks.ARGUMENT);
            refused("length(" + bad + ", 0)", x -> x.length(bad, 0), Checks.ARGUMENT);
            refused("number(" + bad + ", 0, true)", x -> x.number(bad, 0, true), Checks.ARGUMENT);
            refused("character(" + bad + ", 0, 0, false)", x -> x.character(bad, 0, 0, false), Checks.ARGUMENT);
        }
    }

    private static void partsNotThere() {
        // Slot 0 of the standing bench holds 4 PARTS.
        for (int bad : new int[] {-1, 4, MANY, FEW}) {
            refused("kind(0, " + bad + ")", x -> x.kind(0, bad), Checks.ELEMENT);
            refused("length(0, " + bad + ")", x -> x.length(0, bad), Checks.ELEMENT);
            refused("number(0, " + bad + ", false)", x -> x.number(0, bad, false), Checks.ELEMENT);
            refused("character(0, " + bad + ", 0, true)", x -> x.character(0, bad, 0, true), Checks.ELEMENT);
        }
        Standing standing = new Standing();
        for (int i = 0; i < 4; i++) {
            int n = i;
            Checks.due("kind(0, " + n + ")", () -> standing.bench.kind(0, n), new int[] {5, 3, 6, 4}[n]);
        }
        standing.dueAll("calls that look", Standing.COUNTS, Standing.OUTPUTS, Standing.FAULT);
    }

    private static void dueLength(String steps, int part, int want) {
        Script script = Script.with(steps);
        Checks.due("length(0, " + part + ") of " + steps, () -> script.bench.length(0, part), want);
    }

    private static void lengths() {
        dueLength("STRING:3", 0, 0);
        dueLength("STRING:0", 0, 1);
        dueLength("STRING:7", 0, 12);
        dueLength("NOTHING", 0, 0);
        dueLength("ARRAY WORD:0", 0, 1);
        dueLength("ARRAY RANGE NUMBER:12000", 0, 12);
        dueLength("ARRAY ARRAY RANGE NUMBER:5000", 0, 1);
        dueLength("ARRAY ARRAY RANGE NUMBER:5000", 1, 5);
        dueLength("OBJECT:7 WORD:0", 0, 1);
        dueLength(SIX_MEMBERS, 0, 6);
        dueLength(SIZE_24, 0, 3);
        dueLength(SIZE_24, 12, 10);
        dueLength(SIZE_24, 23, 12);
    }

    private static void lengthsOfOthers() {
        for (String value : new String[] {"WORD:0", "WORD:1", "WORD:2", "NUMBER:0", "NUMBER:12345", GREATEST}) {
            dueLength(value, 0, 0);
        }
        dueLength("OBJECT:7 NUMBER:3000", 1, 0);
        for (int part = 1; part <= 12; part++) {
            dueLength("ARRAY RANGE NUMBER:12000", part, 0);
        }
        dueLength("STRING:7;LENGTH", 0, 0);
    }

    private static void dueNumber(String steps, int part, int whole, int scale) {
        Script script = Script.with(steps);
        Checks.due("M of part " + part + " of " + steps, () -> script.bench.number(0, part, false), whole);
        Checks.due("S of part " + part + " of " + steps, () -> script.bench.number(0, part, true), scale);
    }

    private static void numbers() {
        dueNumber("NUMBER:0", 0, 0, 0);
        dueNumber("NUMBER:-1", 0, -1, 3);
        dueNumber("NUMBER:12000", 0, 12, 0);
        dueNumber(GREATEST, 0, 999999999, 0);
        dueNumber(GREATEST + ";CALC:2 SELF NUMBER:-1000", 0, -999999999, 0);
        dueNumber(GREATEST + ";CALC:2 SELF CALC:2 NUMBER:1 NUMBER:-1", 0, -999999999, 6);
        dueNumber("OBJECT:0 NUMBER:2500", 1, 25, 1);
        dueNumber(SIZE_24, 22, 9, 0);
        dueNumber(SIZE_24, 13, 0, 0);
    }

    private static void numbersOfOthers() {
        for (String value : new String[] {"WORD:0", "WORD:1", "WORD:2", "STRING:7", "STRING:3", "NOTHING"}) {
            dueNumber(value, 0, 0, 0);
        }
        dueNumber("ARRAY NUMBER:2500", 0, 0, 0);
        dueNumber("OBJECT:0 NUMBER:2500", 0, 0, 0);
        dueNumber(SIZE_24, 23, 0, 0);
    }

    /** All characters of a PART's TEXT or name, and the refusals before the first and behind the last. */
    private static void dueCharacters(String steps, int part, boolean name, String want) {
        FilterBench x = Script.with(steps).bench;
        String what = " of part " + part + (name ? "'s name" : "") + " of " + steps;
        for (int k = 0; k < want.length(); k++) {
            int at = k;
            Checks.due("character " + k + what, () -> x.character(0, part, at, name), want.charAt(k));
        }
        for (int bad : new int[] {-1, want.length(), 12, MANY, FEW}) {
            Checks.due("character " + bad + what, () -> x.character(0, part, bad, name), Checks.ELEMENT);
        }
    }

    private static void characters() {
        dueCharacters("STRING:3", 0, false, "");
        dueCharacters("STRING:0", 0, false, "a");
        dueCharacters("STRING:7", 0, false, "twelve chars");
        dueCharacters("ARRAY COMMA STRING:0 STRING:2", 1, false, "a");
        dueCharacters("ARRAY COMMA STRING:0 STRING:2", 2, false, "ab");
        dueCharacters("OBJECT:0 STRING:7", 1, false, "twelve chars");
        dueCharacters(SIZE_24, 23, false, "twelve chars");
        for (String other : new String[] {"WORD:0", "WORD:1", "WORD:2", "NUMBER:97000", "ARRAY STRING:7",
            "OBJECT:7 STRING:7"}) {
            dueCharacters(other, 0, false, "");
        }
        dueCharacters("OBJECT:7 WORD:2", 1, false, "");
    }

    private static void names() {
        dueCharacters("OBJECT:7 STRING:0", 1, true, "twelve chars");
        dueCharacters("OBJECT:3 STRING:0", 1, true, "");
        dueCharacters("OBJECT:2 WORD:0", 1, true, "ab");
        dueCharacters("OBJECT:2 OBJECT:0 WORD:0", 1, true, "ab");
        dueCharacters("OBJECT:2 OBJECT:0 WORD:0", 2, true, "a");
        dueCharacters(SIX_MEMBERS, 6, true, "e");
        dueCharacters("CALC:0 OBJECT:0 ARRAY STRING:7 OBJECT:1 WORD:0", 1, true, "a");
        dueCharacters("CALC:0 OBJECT:0 ARRAY STRING:7 OBJECT:1 WORD:0", 3, true, "b");
        dueCharacters("ARRAY OBJECT:7 SELF", 2, true, "twelve chars");
        // No member's values: the value itself, and items of ARRAYS, even of one that is a member's value.
        dueCharacters("STRING:7", 0, true, "");
        dueCharacters("OBJECT:7 STRING:7", 0, true, "");
        dueCharacters("ARRAY STRING:7", 1, true, "");
        dueCharacters("OBJECT:7 ARRAY STRING:0", 2, true, "");
        dueCharacters("ARRAY OBJECT:7 SELF", 1, true, "");
        dueCharacters("WORD:0", 0, true, "");
    }

    private static void charactersRefused() {
        // Slot 0 of the standing bench is [0,{a:'ab'}], slot 7 'twelve chars'.
        refused("character(7, 0, 12, false)", x -> x.character(7, 0, 12, false), Checks.ELEMENT);
        refused("character(7, 0, -1, false)", x -> x.character(7, 0, -1, false), Checks.ELEMENT);
        refused("character(7, 0, 0, true)", x -> x.character(7, 0, 0, true), Checks.ELEMENT);
        refused("character(0, 3, 2, false)", x -> x.character(0, 3, 2, false), Checks.ELEMENT);
        refused("character(0, 3, 1, true)", x -> x.character(0, 3, 1, true), Checks.ELEMENT);
        refused("character(0, 1, 0, false)", x -> x.character(0, 1, 0, false), Checks.ELEMENT);
        Standing standing = new Standing();
        Checks.due("character(7, 0, 11, false)", () -> standing.bench.character(7, 0, 11, false), 's');
        Checks.due("character(0, 3, 1, false)", () -> standing.bench.character(0, 3, 1, false), 'b');
        Checks.due("character(0, 3, 0, true)", () -> standing.bench.character(0, 3, 0, true), 'a');
    }

    // Promise 11

    private static void orders() {
        Script script = Script.withStrings();
        FilterBench x = script.bench;
        for (int slot = 0; slot < 8; slot++) {
            script.become(slot, "NUMBER:" + 1000 * (slot / 2));
        }
        for (int a = 0; a < 8; a++) {
            for (int b = 0; b < 8; b++) {
                int first = a;
                int second = b;
                Checks.due("order(" + a + ", " + b + ")", () -> x.order(first, second), Integer.compare(a / 2, b / 2));
            }
        }
        Script great = Script.with(SIZE_24);
        great.become(1, SIZE_24);
        Checks.due("order of SIZE 24 with itself", () -> great.bench.order(0, 0), 0);
        Checks.due("order of SIZE 24 with one like it", () -> great.bench.order(0, 1), 0);
        great.become(1, "ARRAY COMMA INDEX NUMBER:0 COMMA INDEX NUMBER:0 STRING:2");
        Checks.due("order of SIZE 24 with one that ends otherwise", () -> great.bench.order(0, 1), 1);
        Checks.due("order of that with SIZE 24", () -> great.bench.order(1, 0), -1);
    }

    private static void ordersRefused() {
        for (int bad : BAD_OF_8) {
            refused("order(" + bad + ", 0)", x -> x.order(bad, 0), Checks.ARGUMENT);
            refused("order(0, " + bad + ")", x -> x.order(0, bad), Checks.ARGUMENT);
            refused("order(" + bad + ", " + bad + ")", x -> x.order(bad, bad), Checks.ARGUMENT);
        }
    }

    // Promise 12

    private static void dueCounts(FilterBench x, String when, int... wants) {
        for (int what = 0; what < wants.length; what++) {
            int n = what;
            Checks.due("count(" + what + ") " + when, () -> x.count(n), wants[what]);
        }
    }

    private static void counts() {
        Script script = Script.withStrings();
        FilterBench x = script.bench;
        dueCounts(x, "at first", 0, 0, 0, 0);
        script.fill(0, "EMPTY");
        x.run(0, 0);
        dueCounts(x, "behind no value", 0, 1, 0, 0);
        script.fill(0, "RANGE NUMBER:16000");
        x.run(0, 0);
        dueCounts(x, "behind 16 values", 16, 2, 0, 0);
        script.fill(1, "COMMA NUMBER:1000 RAISE");
        for (int run = 1; run <= 3; run++) {
            Checks.told(() -> x.run(1, 0));
            dueCounts(x, "behind ERROR " + run, 1, 3, run, 0);
        }
        script.fill(2, "COMMA NUMBER:1000 RANGE NUMBER:16000");
        for (int run = 1; run <= 3; run++) {
            Checks.told(() -> x.run(2, 0));
            dueCounts(x, "behind want of ROOM " + run, 0, 0, 3, run);
        }
        Checks.told(() -> x.run(1, 0));
        dueCounts(x, "behind one more ERROR", 1, 3, 4, 3);
        x.run(0, 0);
        dueCounts(x, "behind a run that ends well", 16, 2, 4, 3);
    }

    private static void countsOfCaughtErrors() {
        Script script = Script.withStrings();
        script.fill(0, "TRY RAISE SELF");
        script.bench.run(0, 0);
        dueCounts(script.bench, "behind an ERROR that TRY caught", 1, 3, 0, 0);
        script.fill(0, "OR RAISE SELF");
        script.bench.run(0, 0);
        dueCounts(script.bench, "behind an ERROR that OR dropped", 1, 3, 0, 0);
        script.fill(0, "LIMIT:1 COMMA SELF RAISE");
        script.bench.run(0, 0);
        Checks.due("runs ended by an ERROR behind one that LIMIT left", () -> script.bench.count(2), 0);
    }

    private static void countsOfRefusedRuns() {
        Script script = Script.withStrings();
        FilterBench x = script.bench;
        script.fill(0, "COMMA NUMBER:1000 COMMA NUMBER:2000 RAISE");
        script.fill(1, "PIPE SELF");
        Checks.told(() -> x.run(0, 0));
        dueCounts(x, "behind an ERROR", 2, 5, 1, 0);
        for (int bad : BAD_OF_4) {
            Checks.due("run(" + bad + ", 0)", () -> x.run(bad, 0), Checks.ARGUMENT);
            dueCounts(x, "behind it", 2, 5, 1, 0);
        }
        for (int bad : BAD_OF_8) {
            Checks.due("run(0, " + bad + ")", () -> x.run(0, bad), Checks.ARGUMENT);
            dueCounts(x, "behind it", 2, 5, 1, 0);
        }
        Checks.due("run(1, 0)", () -> x.run(1, 0), Checks.ELEMENT);
        Checks.due("run(2, 0)", () -> x.run(2, 0), Checks.ELEMENT);
        dueCounts(x, "behind filters that are not RIGHT", 2, 5, 1, 0);
    }

    private static void countsOfOthers() {
        for (int bad : new int[] {-1, 4, 5, MANY, FEW}) {
            refused("count(" + bad + ")", x -> x.count(bad), "-1");
        }
    }

    private static void test(String promise, String words, Checks.Test test) {
        Checks.sentence(promise, words, test);
    }

    private static void newObjects() {
        String p = "Promise 1 A new object";
        test(p, "makes an object in the state that the terms give.", CallsBoundariesTest::stateAtFirst);
        test(p + ", beside others", "makes an object in the state that the terms give.",
                CallsBoundariesTest::objectsApart);
        test("Promises 1 to 12", "An object is used for at most 512 calls after it has been made",
                CallsBoundariesTest::calls512);
    }

    private static void letters() {
        String p = "Promise 2 letter";
        test(p, "The STRING 0 .. 7 gets one more character, 32 .. 126: its length.", CallsBoundariesTest::letterRanges);
        test(p, "Numbers out of range: IllegalArgumentException", CallsBoundariesTest::letterOutOfRange);
        test(p, "12 there: IllegalStateException.", CallsBoundariesTest::letterFull);
    }

    private static void tokens() {
        String p = "Promise 3 token";
        test(p, "The filter 0 .. 3 gets one more token, op 0 .. 34", CallsBoundariesTest::tokenRanges);
        test(p, "STRINGS 0 .. 7", CallsBoundariesTest::choicesOfStrings);
        test(p, "CALC 0 .. 3", () -> choices(12, 3));
        test(p, "COMPARE 0 .. 5", () -> choices(13, 5));
        test(p, "WORD 0 .. 2", () -> choices(8, 2));
        test(p, "VARIABLES 0 .. 3", CallsBoundariesTest::choicesOfVariables);
        test(p, "LIMIT 0 .. 9", () -> choices(31, 9));
        test(p, "else any", CallsBoundariesTest::anyChoices);
        test(p, "32 there: IllegalStateException.", CallsBoundariesTest::tokenFull);
    }

    private static void wipings() {
        String p = "Promise 4 wipe";
        test(p, "The filter (what 0) or STRING (what 1) is empty: how much it had.", CallsBoundariesTest::wipes);
        test(p + ", all others", "is empty", CallsBoundariesTest::wipesLeaveOthers);
        test(p, "how much it had. IllegalArgumentException.", CallsBoundariesTest::wipesOutOfRange);
    }

    private static void runs() {
        String p = "Promise 5 run";
        test(p, "The filter on the value of a slot: the OUTPUTS are its row: how many.",
                CallsBoundariesTest::runOutputs);
        test(p, "IllegalArgumentException: numbers out of range", CallsBoundariesTest::runRanges);
        test(p, "NoSuchElementException: the filter is not RIGHT. With these nothing changes.",
                CallsBoundariesTest::runNotRight);
        test(p, "UnsupportedOperationException: an ERROR ended it: the OUTPUTS are the values before it, the FAULT is its "
                + "value.", CallsBoundariesTest::runErrors);
        test(p, "IllegalStateException: no ROOM: there are no OUTPUTS.", CallsBoundariesTest::runWithoutRoom);
        test(p, "The FAULT is NULL then, and behind a run that ends well, and at first.", CallsBoundariesTest::faults);
    }

    private static void keepings() {
        String p = "Promise 6 keep";
        test(p, "The slot gets OUTPUT k (from 0), or the FAULT for k -1: the value's SIZE.",
                CallsBoundariesTest::keeps);
        test(p + ", behind other calls", "The slot gets OUTPUT k (from 0)", CallsBoundariesTest::keepOfOutputsThatStay);
        test(p, "IllegalArgumentException: the slot", CallsBoundariesTest::keepRefused);
        test(p, "NoSuchElementException: there is no such OUTPUT.", CallsBoundariesTest::keepOfNoOutput);
    }

    private static void looks() {
        test("Promise 7 kind", "part 0 is the value itself, then come all PARTS of its items or members, in order.",
                CallsBoundariesTest::parts);
        test("Promises 7 to 10", "IllegalArgumentException: the slot; NoSuchElementException: i.",
                CallsBoundariesTest::partsRefused);
        test("Promises 7 to 10, no such PART", "NoSuchElementException: i.", CallsBoundariesTest::partsNotThere);
        test("Promise 8 length", "Characters, items or members of PART i", CallsBoundariesTest::lengths);
        test("Promise 8 length", "0 for other kinds. Likewise.", CallsBoundariesTest::lengthsOfOthers);
        test("Promise 9 number", "M of the NUMBER that PART i is, or S (scale)", CallsBoundariesTest::numbers);
        test("Promise 9 number", "or S (scale); 0 for other kinds.", CallsBoundariesTest::numbersOfOthers);
        test("Promise 10 character", "Character k (from 0) of the TEXT that PART i is",
                CallsBoundariesTest::characters);
        test("Promise 10 character", "or, with name, of its name, if it is a member's value.",
                CallsBoundariesTest::names);
        test("Promise 10 character", "Likewise, and NoSuchElementException if there is none.",
                CallsBoundariesTest::charactersRefused);
    }

    private static void ordersAndCounts() {
        test("Promise 11 order", "Whether the first slot's value is before (-1), ALIKE (0) or behind (1) the second one's.",
                CallsBoundariesTest::orders);
        test("Promise 11 order", "the second one's. IllegalArgumentException.", CallsBoundariesTest::ordersRefused);
        String p = "Promise 12 count";
        test(p, "OUTPUTS (0), how often tokens began to be worked out", CallsBoundariesTest::counts);
        test(p, "runs ended by an ERROR (2), without ROOM (3)", CallsBoundariesTest::countsOfCaughtErrors);
        test(p, "in the last run that was no IllegalArgumentException and no NoSuchElementException (1; 0 if there was no "
                + "ROOM)", CallsBoundariesTest::countsOfRefusedRuns);
        test(p, "-1 for others.", CallsBoundariesTest::countsOfOthers);
    }

    public static void main(String[] args) {
        newObjects();
        letters();
        tokens();
        wipings();
        runs();
        keepings();
        looks();
        ordersAndCounts();
        Checks.end();
    }
}
