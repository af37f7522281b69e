/** The calls of the face, promise by promise: ordinary inputs, edges and wrong inputs. */
public final class PromisesTest {
    private static final int MANY = 2147483647;
    private static final int FEW = -2147483648;
    private static final int[] BAD_OF_8 = {-1, 8, MANY, FEW};
    private static final int[] BAD_OF_4 = {-1, 4, MANY, FEW};

    private static void newObject() {
        FilterBench x = new FilterBench();
        for (int what = 0; what < 4; what++) {
            int counted = what;
            Checks.due("count(" + what + ") of a new object", () -> x.count(counted), 0);
        }
        for (int k = 0; k < 8; k++) {
            int n = k;
            Checks.due("kind of slot " + k + " at first", () -> x.kind(n, 0), 0);
            Checks.due("wipe of STRING " + k + " at first", () -> x.wipe(1, n), 0);
        }
        for (int k = 0; k < 4; k++) {
            int n = k;
            Checks.due("run of filter " + k + " at first", () -> x.run(n, 0), Checks.ELEMENT);
            Checks.due("wipe of filter " + k + " at first", () -> x.wipe(0, n), 0);
        }
        Checks.due("keep of the FAULT at first", () -> x.keep(0, -1), 1);
        Checks.due("keep of an OUTPUT at first", () -> x.keep(0, 0), Checks.ELEMENT);
        FilterBench y = new FilterBench();
        x.letter(0, 'a');
        Checks.due("two objects share nothing", () -> y.letter(0, 'a'), 1);
    }

    private static void letters() {
        FilterBench x = new FilterBench();
        for (int bad : BAD_OF_8) {
            Checks.due("letter(" + bad + ", 97)", () -> x.letter(bad, 97), Checks.ARGUMENT);
        }
        for (int bad : new int[] {31, 127, -1, 0, MANY, FEW}) {
            Checks.due("letter(0, " + bad + ")", () -> x.letter(0, bad), Checks.ARGUMENT);
        }
        Checks.due("the least letter", () -> x.letter(0, 32), 1);
        Checks.due("the greatest letter", () -> x.letter(0, 126), 2);
        for (int k = 3; k <= 12; k++) {
            Checks.due("letter " + k, () -> x.letter(0, 'x'), k);
        }
        Checks.due("letter 13", () -> x.letter(0, 'x'), Checks.STATE);
        Checks.due("another STRING", () -> x.letter(7, 'y'), 1);
        Script script = new Script();
        script.spell(5, " ~'\"");
        Checks.same("STRING 5", script.ran("STRING:5", 0), "' ~'\"'");
        Checks.due("letter behind a run", () -> script.bench.letter(5, 'z'), 5);
        Checks.same("STRINGS are read when the filter runs", script.ranFilter(0, 0), "' ~'\"z'");
        script.bench.keep(0, 0);
        script.bench.wipe(1, 5);
        Checks.same("a kept TEXT stays as it was", script.ran("SELF", 0), "' ~'\"z'");
    }

    private static void tokens() {
        FilterBench x = new FilterBench();
        for (int bad : BAD_OF_4) {
            Checks.due("token(" + bad + ", 0, 0)", () -> x.token(bad, 0, 0), Checks.ARGUMENT);
        }
        for (int bad : new int[] {-1, 35, 38, MANY, FEW}) {
            Checks.due("token(0, " + bad + ", 0)", () -> x.token(0, bad, 0), Checks.ARGUMENT);
        }
        int[] ends = {
            0, 8, 0, 0, 0, 0, 0, 8, 3, 0,
            0, 8, 4, 6, 0, 0, 0, 0, 0, 0,
            4, 4, 4, 0, 0, 0, 0, 0, 0, 0,
            0, 10, 0, 0, 0};
        for (int op = 0; op < 35; op++) {
            choicesOf(op, ends[op]);
        }
        for (int k = 1; k <= 32; k++) {
            Checks.due("token " + k, () -> x.token(3, 0, 0), k);
        }
        Checks.due("token 33", () -> x.token(3, 0, 0), Checks.STATE);
        Checks.due("another filter", () -> x.token(2, 0, 0), 1);
    }

    /** The range of a for one op; an end of 0 means any. */
    private static void choicesOf(int op, int end) {
        for (int a : new int[] {FEW, -1, 0, 1, 2, 3, 4, 5, 6, 7, 8, 9, 10, MANY}) {
            FilterBench x = new FilterBench();
            boolean right = end == 0 || a >= 0 && a < end;
            Checks.due("token(0, " + op + ", " + a + ")", () -> x.token(0, op, a), right ? "1" : Checks.ARGUMENT);
        }
    }

    private static void wipes() {
        Script script = Script.withStrings();
        FilterBench x = script.bench;
        for (int bad : BAD_OF_4) {
            Checks.due("wipe(0, " + bad + ")", () -> x.wipe(0, bad), Checks.ARGUMENT);
        }
        for (int bad : BAD_OF_8) {
            Checks.due("wipe(1, " + bad + ")", () -> x.wipe(1, bad), Checks.ARGUMENT);
        }
        for (int bad : new int[] {-1, 2, MANY, FEW}) {
            Checks.due("wipe(" + bad + ", 0)", () -> x.wipe(bad, 0), Checks.ARGUMENT);
        }
        Checks.due("wipe of 12 characters", () -> x.wipe(1, 7), 12);
        Checks.due("wipe of none", () -> x.wipe(1, 7), 0);
        Checks.due("the other STRINGS stay", () -> x.wipe(1, 2), 2);
        script.fill(3, "PIPE SELF SELF");
        script.fill(2, "SELF");
        Checks.due("wipe of 3 tokens", () -> x.wipe(0, 3), 3);
        Checks.due("a wiped filter is not RIGHT", () -> x.run(3, 0), Checks.ELEMENT);
        Checks.due("the other filters stay", () -> x.run(2, 0), 1);
        Checks.due("a token behind wipe", () -> x.token(3, 0, 0), 1);
        Checks.due("its run", () -> x.run(3, 0), 1);
    }

    private static void runs() {
        Script script = Script.withStrings();
        FilterBench x = script.bench;
        script.fill(0, "COMMA STRING:2 COMMA NUMBER:1000 PIPE ARRAY STRING:0 RAISE");
        Checks.due("run that an ERROR ends", () -> x.run(0, 0), Checks.ERROR);
        refusedRunsChangeNothing(script);
        Checks.same("OUTPUTS before the ERROR", script.outputs(), "'ab' 1");
        x.keep(0, -1);
        Checks.same("its FAULT", script.shown(0), "['a']");
        script.fill(1, "RANGE NUMBER:3000");
        Checks.due("run that ends well", () -> x.run(1, 0), 3);
        Checks.same("its OUTPUTS", script.outputs(), "0 1 2");
        x.keep(1, -1);
        Checks.same("no FAULT behind it", script.shown(1), "null");
        Checks.due("run that an ERROR ends at once", () -> x.run(3, 0), Checks.ELEMENT);
        script.fill(3, "RAISE");
        Checks.due("RAISE", () -> x.run(3, 0), Checks.ERROR);
        Checks.due("OUTPUTS of RAISE", () -> x.count(0), 0);
        script.fill(3, "COMMA SELF ARRAY RANGE NUMBER:13000");
        Checks.due("run without ROOM", () -> x.run(3, 0), Checks.STATE);
        Checks.due("its OUTPUTS", () -> x.count(0), 0);
        Checks.due("keep of them", () -> x.keep(2, 0), Checks.ELEMENT);
        x.keep(0, -1);
        Checks.same("its FAULT is NULL", script.shown(0), "null");
        Checks.due("a run behind it", () -> x.run(1, 0), 3);
        script.fill(3, "EMPTY");
        Checks.due("a run with no values", () -> x.run(3, 0), 0);
        Checks.due("OUTPUTS of it", () -> x.count(0), 0);
        variablesBeginAnew();
    }

    private static void refusedRunsChangeNothing(Script script) {
        FilterBench x = script.bench;
        int begun = x.count(1);
        for (int bad : BAD_OF_4) {
            Checks.due("run(" + bad + ", 0)", () -> x.run(bad, 0), Checks.ARGUMENT);
        }
        for (int bad : BAD_OF_8) {
            Checks.due("run(0, " + bad + ")", () -> x.run(0, bad), Checks.ARGUMENT);
        }
        Checks.due("run of an empty filter", () -> x.run(3, 0), Checks.ELEMENT);
        Checks.due("OUTPUTS behind refused runs", () -> x.count(0), 2);
        Checks.due("steps behind refused runs", () -> x.count(1), begun);
        Checks.due("ERRORS behind refused runs", () -> x.count(2), 1);
        Checks.due("runs without ROOM behind refused runs", () -> x.count(3), 0);
    }

    private static void variablesBeginAnew() {
        Script script = Script.withStrings();
        Checks.same("a run that leaves from inside BIND", script.ran("BIND:0 STRING:0 RANGE NUMBER:17000", 0), "no room");
        Checks.same("VARIABLE of the next run", script.ran("VARIABLE:0", 0), "null");
        Checks.same("an ERROR inside BIND", script.ran("BIND:0 STRING:0 RAISE", 0), "!null");
        Checks.same("VARIABLE of the run behind", script.ran("VARIABLE:0", 0), "null");
    }

    private static void keeps() {
        Script script = Script.withStrings();
        FilterBench x = script.bench;
        script.fill(0, "COMMA ARRAY RANGE NUMBER:12000 COMMA OBJECT:0 OBJECT:1 NOTHING RAISE");
        Checks.due("run", () -> x.run(0, 0), Checks.ERROR);
        for (int bad : BAD_OF_8) {
            Checks.due("keep(" + bad + ", 0)", () -> x.keep(bad, 0), Checks.ARGUMENT);
        }
        for (int bad : new int[] {-2, 2, MANY, FEW}) {
            Checks.due("keep(0, " + bad + ")", () -> x.keep(0, bad), Checks.ELEMENT);
        }
        Checks.due("SIZE of 12 items", () -> x.keep(0, 0), 13);
        Checks.due("SIZE of an OBJECT", () -> x.keep(7, 1), 3);
        Checks.due("SIZE of the FAULT", () -> x.keep(3, -1), 1);
        Checks.due("an OUTPUT is kept twice", () -> x.keep(6, 1), 3);
        script.ran("NUMBER:1000", 0);
        x.keep(7, 0);
        Checks.same("slot 0", script.shown(0), "[0,1,2,3,4,5,6,7,8,9,10,11]");
        Checks.same("slot 6", script.shown(6), "{a:{b:[]}}");
        Checks.same("slot 7", script.shown(7), "1");
        script.ran("ARRAY SELF", 6);
        Checks.due("keep in the slot that was run on", () -> x.keep(6, 0), 4);
        Checks.same("slot 6 then", script.shown(6), "[{a:{b:[]}}]");
        Checks.same("slot 0 then", script.shown(0), "[0,1,2,3,4,5,6,7,8,9,10,11]");
    }

    /** Parts: 0 the OBJECT, 1 a's ARRAY, 2 -1.5, 3 'ab', 4 an OBJECT, 5 b's NULL, 6 FALSE, 7 ab's TEXT, 8 b's TRUE. */
    private static Script withParts() {
        Script script = Script.withStrings();
        script.become("CALC:0 OBJECT:1 WORD:2 CALC:0 OBJECT:2 STRING:7 "
                + "OBJECT:0 ARRAY COMMA COMMA NUMBER:-1500 STRING:2 COMMA OBJECT:1 SELF WORD:1");
        return script;
    }

    private static void parts() {
        FilterBench x = withParts().bench;
        int[] kinds = {6, 5, 3, 4, 6, 0, 1, 4, 2};
        int[] lengths = {3, 4, 0, 2, 1, 0, 0, 12, 0};
        int[] wholes = {0, 0, -15, 0, 0, 0, 0, 0, 0};
        int[] scales = {0, 0, 1, 0, 0, 0, 0, 0, 0};
        for (int k = 0; k < kinds.length; k++) {
            int i = k;
            Checks.due("kind(0, " + i + ")", () -> x.kind(0, i), kinds[i]);
            Checks.due("length(0, " + i + ")", () -> x.length(0, i), lengths[i]);
            Checks.due("number(0, " + i + ", false)", () -> x.number(0, i, false), wholes[i]);
            Checks.due("number(0, " + i + ", true)", () -> x.number(0, i, true), scales[i]);
        }
        for (int bad : new int[] {-1, 9, MANY, FEW}) {
            Checks.due("kind(0, " + bad + ")", () -> x.kind(0, bad), Checks.ELEMENT);
            Checks.due("length(0, " + bad + ")", () -> x.length(0, bad), Checks.ELEMENT);
            Checks.due("number(0, " + bad + ", true)", () -> x.number(0, bad, true), Checks.ELEMENT);
            Checks.due("character(0, " + bad + ", 0, true)", () -> x.character(0, bad, 0, true), Checks.ELEMENT);
        }
        for (int bad : BAD_OF_8) {
            Checks.due("kind(" + bad + ", 0)", () -> x.kind(bad, 0), Checks.ARGUMENT);
            Checks.due("length(" + bad + ", 0)", () -> x.length(bad, 0), Checks.ARGUMENT);
            Checks.due("number(" + bad + ", 0, false)", () -> x.number(bad, 0, false), Checks.ARGUMENT);
            Checks.due("character(" + bad + ", 0, 0, false)", () -> x.character(bad, 0, 0, false), Checks.ARGUMENT);
        }
        Checks.due("kind of a slot with NULL", () -> x.kind(1, 0), 0);
        Checks.due("part 1 of NULL", () -> x.kind(1, 1), Checks.ELEMENT);
    }

    private static void characters() {
        FilterBench x = withParts().bench;
        String[] texts = {null, null, null, "ab", null, null, null, "twelve chars", null};
        String[] names = {null, "a", null, null, null, "b", null, "ab", "b"};
        for (int k = 0; k < texts.length; k++) {
            charactersOf(x, k, texts[k], false);
            charactersOf(x, k, names[k], true);
        }
        Script script = Script.withStrings();
        script.become("OBJECT:3 STRING:3");
        Checks.due("character of an empty TEXT", () -> script.bench.character(0, 1, 0, false), Checks.ELEMENT);
        Checks.due("character of an empty name", () -> script.bench.character(0, 1, 0, true), Checks.ELEMENT);
    }

    private static void charactersOf(FilterBench x, int i, String text, boolean name) {
        String call = "character(0, " + i + ", k, " + name + ") for k ";
        for (int k = -1; k < 14; k++) {
            int at = k;
            boolean there = text != null && k >= 0 && k < text.length();
            Checks.due(call + k, () -> x.character(0, i, at, name),
                    there ? Integer.toString(text.charAt(k)) : Checks.ELEMENT);
        }
        Checks.due(call + MANY, () -> x.character(0, i, MANY, name), Checks.ELEMENT);
        Checks.due(call + FEW, () -> x.character(0, i, FEW, name), Checks.ELEMENT);
    }

    private static void orders() {
        String[] rising = {
            "WORD:0", "WORD:1", "WORD:2", "NUMBER:-2000", "NUMBER:-1999", "NUMBER:0", "NUMBER:900", "NUMBER:10000",
            "STRING:3", "STRING:0", "STRING:2", "STRING:1", "NOTHING", "ARRAY WORD:0", "ARRAY COMMA WORD:0 WORD:0",
            "ARRAY WORD:1", "ARRAY NOTHING", "OBJECT:3 NOTHING", "CALC:0 OBJECT:3 WORD:0 OBJECT:1 WORD:0",
            "OBJECT:0 WORD:0", "OBJECT:0 WORD:2", "CALC:0 OBJECT:0 WORD:0 OBJECT:1 WORD:2",
            "CALC:0 OBJECT:0 WORD:1 OBJECT:1 WORD:0", "OBJECT:1 WORD:0"};
        for (int i = 0; i < rising.length; i++) {
            for (int j = 0; j < rising.length; j++) {
                FilterBench x = held(rising[i], rising[j]);
                Checks.due("order of " + rising[i] + " and " + rising[j], () -> x.order(1, 2), Integer.compare(i, j));
            }
        }
        FilterBench x = new FilterBench();
        for (int bad : BAD_OF_8) {
            Checks.due("order(" + bad + ", 0)", () -> x.order(bad, 0), Checks.ARGUMENT);
            Checks.due("order(0, " + bad + ")", () -> x.order(0, bad), Checks.ARGUMENT);
        }
        Checks.due("order of new slots", () -> x.order(0, 7), 0);
    }

    private static FilterBench held(String first, String second) {
        Script script = Script.withStrings();
        script.ran(first, 0);
        script.bench.keep(1, 0);
        script.ran(second, 0);
        script.bench.keep(2, 0);
        return script.bench;
    }

    private static void counts() {
        Script script = Script.withStrings();
        FilterBench x = script.bench;
        script.fill(0, "COMMA SELF COMMA SELF RAISE");
        script.fill(1, "RANGE NUMBER:17000");
        script.fill(2, "RANGE NUMBER:16000");
        int[][] runs = {{2, 16, 2, 0, 0}, {0, 2, 5, 1, 0}, {0, 2, 5, 2, 0}, {1, 0, 0, 2, 1}, {3, 0, 0, 2, 1},
            {1, 0, 0, 2, 2}, {2, 16, 2, 2, 2}, {3, 16, 2, 2, 2}, {4, 16, 2, 2, 2}};
        for (int k = 0; k < runs.length; k++) {
            int[] run = runs[k];
            Checks.told(() -> x.run(run[0], 0));
            for (int what = 0; what < 4; what++) {
                int counted = what;
                Checks.due("count(" + what + ") behind run " + k, () -> x.count(counted), run[what + 1]);
            }
        }
        for (int bad : BAD_OF_4) {
            Checks.due("count(" + bad + ")", () -> x.count(bad), -1);
        }
    }

    public static void main(String[] args) {
        newObject();
        letters();
        tokens();
        wipes();
        runs();
        keeps();
        parts();
        characters();
        orders();
        counts();
        Checks.end();
    }
}
