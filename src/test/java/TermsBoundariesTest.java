/** The boundaries that the section Terms names for values, filters, rows and ROOM: a test for each sentence. */
public final class TermsBoundariesTest {
    private static final String GREATEST = "CALC:0 CALC:2 NUMBER:999999000 NUMBER:1000000 NUMBER:999000";
    private static final String LEAST = GREATEST + ";CALC:2 SELF NUMBER:-1000";
    private static final String MILLIONTH = "CALC:2 NUMBER:1 NUMBER:1";
    private static final String FIVE_MEMBERS = "CALC:0 CALC:0 OBJECT:6 SELF OBJECT:1 SELF "
            + "CALC:0 OBJECT:2 SELF CALC:0 OBJECT:0 SELF OBJECT:4 SELF";
    private static final String SIX_MEMBERS = "CALC:0 OBJECT:5 SELF " + FIVE_MEMBERS;
    private static final String SIX_OTHERS = SIX_MEMBERS.replace("SELF", "WORD:0");
    private static final String[] KINDS = {
        "WORD:0", "WORD:1", "WORD:2", "NUMBER:2500", "STRING:2", "ARRAY NUMBER:1000", "OBJECT:0 NUMBER:1000"};

    private static void due(String steps, String filter, String want) {
        Script.due(steps, filter, want);
    }

    /** Looks at M and S of the NUMBER that comes of a filter. */
    private static void dueNumber(String steps, String filter, int whole, int scale) {
        Script script = Script.with(steps);
        script.ran(filter, 0);
        String what = filter + " on " + steps;
        Checks.due("keep of " + what, () -> script.bench.keep(1, 0), 1);
        Checks.due("kind of " + what, () -> script.bench.kind(1, 0), 3);
        Checks.due("M of " + what, () -> script.bench.number(1, 0, false), whole);
        Checks.due("S of " + what, () -> script.bench.number(1, 0, true), scale);
    }

    private static void kindsAsNumbered() {
        for (int k = 0; k < KINDS.length; k++) {
            Script script = Script.with(KINDS[k]);
            Checks.due("kind of " + KINDS[k], () -> script.bench.kind(0, 0), k);
        }
    }

    private static void scales() {
        dueNumber("", "NUMBER:1000000", 1000, 0);
        dueNumber("", "NUMBER:10000", 10, 0);
        dueNumber("", "NUMBER:100", 1, 1);
        dueNumber("", "CALC:2 NUMBER:1 NUMBER:10", 1, 5);
        dueNumber("", MILLIONTH, 1, 6);
        due("", "CALC:2 NUMBER:100 " + MILLIONTH, "no room");
        dueNumber("", "CALC:2 NUMBER:-1 NUMBER:10", -1, 5);
        dueNumber("", "CALC:2 NUMBER:-1 NUMBER:1", -1, 6);
        due("", "CALC:2 NUMBER:-100 " + MILLIONTH, "no room");
        dueNumber("", "CALC:2 NUMBER:123456 NUMBER:1", 123456, 6);
        due("", "CALC:2 NUMBER:123456 CALC:2 NUMBER:1 NUMBER:100", "no room");
        due("", "CALC:2 " + MILLIONTH + " " + MILLIONTH, "no room");
        dueNumber(MILLIONTH, "CALC:0 SELF SELF", 2, 6);
        dueNumber(MILLIONTH, "CALC:1 SELF NUMBER:1", -999, 6);
    }

    private static void leastScales() {
        dueNumber("", "NUMBER:1", 1, 3);
        dueNumber("", "NUMBER:10", 1, 2);
        dueNumber("", "NUMBER:1000", 1, 0);
        dueNumber("", "NUMBER:0", 0, 0);
        dueNumber("", "NUMBER:1050", 105, 2);
        dueNumber("", "NUMBER:1500", 15, 1);
        dueNumber("", "NUMBER:-1500", -15, 1);
        dueNumber("", "CALC:0 NUMBER:500 NUMBER:500", 1, 0);
        dueNumber("", "CALC:0 NUMBER:250 NUMBER:250", 5, 1);
        dueNumber("", "CALC:1 NUMBER:-500 NUMBER:500", -1, 0);
        dueNumber("", "CALC:1 NUMBER:1100 NUMBER:1100", 0, 0);
        dueNumber("", "CALC:2 NUMBER:250 NUMBER:4000", 1, 0);
        dueNumber("", "CALC:2 NUMBER:0 " + MILLIONTH, 0, 0);
        dueNumber("", "CALC:2 NUMBER:10000 " + MILLIONTH, 1, 5);
        dueNumber("", "CALC:0 " + MILLIONTH + " CALC:2 NUMBER:999999 NUMBER:1", 1, 0);
        // Seven places are worked out, but six are enough.
        dueNumber("", "CALC:2 NUMBER:500 CALC:2 NUMBER:2 NUMBER:1", 1, 6);
        due("", "CALC:2 NUMBER:500 " + MILLIONTH, "no room");
        dueNumber("", "CALC:3 NUMBER:7500 NUMBER:2500", 1, 0);
        dueNumber("NUMBER:-1500", "LENGTH", 15, 1);
        dueNumber("NUMBER:10500", "FLOOR", 10, 0);
        due("NUMBER:1500", "COMPARE:0 SELF CALC:0 NUMBER:750 NUMBER:750", "true");
    }

    private static void greatestWholes() {
        dueNumber(GREATEST, "SELF", 999999999, 0);
        dueNumber(GREATEST, "CALC:1 SELF NUMBER:1000", 999999998, 0);
        dueNumber(GREATEST, "CALC:0 SELF NUMBER:0", 999999999, 0);
        due(GREATEST, "CALC:0 SELF NUMBER:1000", "no room");
        due(GREATEST, "CALC:1 SELF NUMBER:-1000", "no room");
        due(GREATEST, "CALC:0 SELF NUMBER:100", "no room");
        due(GREATEST, "CALC:1 SELF NUMBER:100", "no room");
        due(GREATEST, "CALC:0 SELF SELF", "no room");
        dueNumber(GREATEST, "CALC:2 SELF NUMBER:1000", 999999999, 0);
        dueNumber(GREATEST, "CALC:2 SELF NUMBER:1", 999999999, 3);
        dueNumber(GREATEST, "CALC:2 SELF " + MILLIONTH, 999999999, 6);
        due(GREATEST, "CALC:2 SELF NUMBER:2000", "no room");
        due(GREATEST, "CALC:2 SELF SELF", "no room");
        due("", "CALC:2 NUMBER:500000000 NUMBER:2000000", "no room");
        dueNumber("", "CALC:2 NUMBER:500000000 NUMBER:1999000", 999500000, 0);
        dueNumber(GREATEST + ";CALC:2 SELF " + MILLIONTH, "CALC:0 SELF " + MILLIONTH, 1000, 0);
        due("NUMBER:1000000", "CALC:0 SELF " + MILLIONTH, "no room");
        dueNumber("NUMBER:999000", "CALC:0 SELF " + MILLIONTH, 999000001, 6);
        // 65536 * 65536 and 46341 * 46341 would come round again in 32 bits.
        due("", "CALC:2 NUMBER:65536000 NUMBER:65536000", "no room");
        due("", "CALC:2 NUMBER:46341000 NUMBER:46341000", "no room");
    }

    private static void leastWholes() {
        dueNumber(LEAST, "SELF", -999999999, 0);
        dueNumber(LEAST, "CALC:0 SELF NUMBER:1000", -999999998, 0);
        due(LEAST, "CALC:1 SELF NUMBER:1000", "no room");
        due(LEAST, "CALC:0 SELF NUMBER:-1000", "no room");
        due(LEAST, "CALC:1 SELF NUMBER:100", "no room");
        due(LEAST, "CALC:0 SELF SELF", "no room");
        due(LEAST, "CALC:2 SELF SELF", "no room");
        dueNumber(LEAST, "CALC:2 SELF NUMBER:-1000", 999999999, 0);
        dueNumber(LEAST, "CALC:2 SELF " + MILLIONTH, -999999999, 6);
        due(LEAST, "CALC:2 SELF NUMBER:2000", "no room");
        dueNumber(LEAST, "CALC:1 SELF SELF", 0, 0);
        dueNumber(LEAST, "LENGTH", 999999999, 0);
        dueNumber(LEAST + ";CALC:2 SELF " + MILLIONTH, "CALC:1 SELF " + MILLIONTH, -1000, 0);
        due("NUMBER:-1000000", "CALC:1 SELF " + MILLIONTH, "no room");
    }

    private static void wholesOfTokens() {
        dueNumber("", "NUMBER:999999998", 999999998, 3);
        dueNumber("", "NUMBER:999999999", 999999999, 3);
        dueNumber("", "NUMBER:1000000000", 1000000, 0);
        due("", "NUMBER:1000000001", "no room");
        dueNumber("", "NUMBER:1000000010", 100000001, 2);
        dueNumber("", "NUMBER:-999999999", -999999999, 3);
        dueNumber("", "NUMBER:-1000000000", -1000000, 0);
        due("", "NUMBER:-1000000001", "no room");
        due("", "NUMBER:2147483647", "no room");
        dueNumber("", "NUMBER:2147483640", 214748364, 2);
        due("", "NUMBER:-2147483648", "no room");
        due("", "NUMBER:-2147483647", "no room");
        dueNumber("", "NUMBER:-2147483640", -214748364, 2);
    }

    private static void texts() {
        Script script = new Script();
        script.spell(0, " ~34567890~ ");
        script.spell(1, "elevenchars");
        script.spell(2, "x");
        script.spell(3, "yy");
        script.spell(4, "sixsix");
        script.spell(5, "seven77");
        textOf(script, "STRING:0", "' ~34567890~ '");
        textOf(script, "STRING:7", "''");
        textOf(script, "CALC:0 STRING:1 STRING:7", "'elevenchars'");
        textOf(script, "CALC:0 STRING:1 STRING:2", "'elevencharsx'");
        textOf(script, "CALC:0 STRING:2 STRING:1", "'xelevenchars'");
        textOf(script, "CALC:0 STRING:1 STRING:3", "no room");
        textOf(script, "CALC:0 STRING:4 STRING:4", "'sixsixsixsix'");
        textOf(script, "CALC:0 STRING:4 STRING:5", "no room");
        textOf(script, "CALC:0 STRING:0 STRING:7", "' ~34567890~ '");
        textOf(script, "CALC:0 STRING:7 STRING:0", "' ~34567890~ '");
        textOf(script, "CALC:0 STRING:0 STRING:2", "no room");
        textOf(script, "CALC:0 STRING:0 STRING:0", "no room");
        textOf(script, "PIPE ARRAY COMMA STRING:1 STRING:2 SUM", "'elevencharsx'");
        textOf(script, "PIPE ARRAY COMMA STRING:1 STRING:3 SUM", "no room");
    }

    private static void textOf(Script script, String filter, String want) {
        Checks.same(filter, script.ran(filter, 0), want);
    }

    private static void arrays() {
        due("", "NOTHING", "[]");
        due("", "ARRAY EMPTY", "[]");
        due("", "ARRAY COMMA NUMBER:2000 COMMA NUMBER:3000 NUMBER:1000", "[2,3,1]");
        due("", "ARRAY RANGE NUMBER:11000", "[0,1,2,3,4,5,6,7,8,9,10]");
        due("", "ARRAY RANGE NUMBER:12000", "[0,1,2,3,4,5,6,7,8,9,10,11]");
        due("", "ARRAY RANGE NUMBER:13000", "no room");
        due("", "ARRAY RANGE NUMBER:16000", "no room");
        String joined = "CALC:0 ARRAY RANGE NUMBER:6000 ARRAY RANGE ";
        due("", joined + "NUMBER:5000", "[0,1,2,3,4,5,0,1,2,3,4]");
        due("", joined + "NUMBER:6000", "[0,1,2,3,4,5,0,1,2,3,4,5]");
        due("", joined + "NUMBER:7000", "no room");
        due("ARRAY RANGE NUMBER:12000", "CALC:0 SELF NOTHING", "[0,1,2,3,4,5,6,7,8,9,10,11]");
        due("ARRAY RANGE NUMBER:12000", "CALC:0 NOTHING SELF", "[0,1,2,3,4,5,6,7,8,9,10,11]");
        due("ARRAY RANGE NUMBER:12000", "CALC:0 ARRAY WORD:0 SELF", "no room");
        due("ARRAY RANGE NUMBER:12000", "CALC:0 SELF SELF", "no room");
        due("ARRAY RANGE NUMBER:12000", "PIPE KEYS LENGTH", "12");
        due("ARRAY RANGE NUMBER:6000;ARRAY COMMA SELF SELF", "PIPE SUM LENGTH", "12");
        due("ARRAY RANGE NUMBER:6000;ARRAY COMMA SELF COMMA SELF ARRAY WORD:0", "SUM", "no room");
    }

    private static void members() {
        due("", "OBJECT:0 SELF", "{a:null}");
        due("", FIVE_MEMBERS, "{a:null,ab:null,b:null,c:null,e:null}");
        due("", SIX_MEMBERS, "{a:null,ab:null,b:null,c:null,d:null,e:null}");
        due("", "CALC:0 OBJECT:3 SELF " + SIX_MEMBERS, "no room");
        due("", "CALC:0 " + SIX_MEMBERS + " OBJECT:3 SELF", "no room");
        due(SIX_MEMBERS, "CALC:0 SELF OBJECT:7 WORD:0", "no room");
        due(SIX_MEMBERS, "CALC:0 SELF SELF", "{a:null,ab:null,b:null,c:null,d:null,e:null}");
        due(SIX_MEMBERS, "PIPE KEYS LENGTH", "6");
        due(SIX_MEMBERS, "PIPE ARRAY COMMA SELF OBJECT:0 WORD:2 SUM", "{a:true,ab:null,b:null,c:null,d:null,e:null}");
        due(SIX_MEMBERS, "PIPE ARRAY COMMA SELF OBJECT:3 WORD:2 SUM", "no room");
        membersOfOthers();
    }

    /** Six members and six others: names before, behind and between those of the first ones. */
    private static void membersOfOthers() {
        for (String other : new String[] {"A#", "x#", "#x"}) {
            Script script = Script.with(SIX_MEMBERS);
            for (int string = 0; string < 7; string++) {
                script.spell(string, other.replace('#', (char) ('a' + string)));
            }
            Checks.same("six members and six others", script.ran("CALC:0 SELF " + SIX_OTHERS, 0), "no room");
            Checks.same("six others and six members", script.ran("CALC:0 " + SIX_OTHERS + " SELF", 0), "no room");
            Checks.same("six others alone", script.ran("PIPE " + SIX_OTHERS + " LENGTH", 1), "6");
        }
    }

    private static void names() {
        due("", "OBJECT:3 WORD:1", "{:false}");
        due("", "OBJECT:7 WORD:2", "{twelve chars:true}");
        due("", "CALC:0 OBJECT:1 WORD:1 CALC:0 OBJECT:0 WORD:2 CALC:0 OBJECT:3 WORD:0 OBJECT:2 WORD:1",
                "{:null,a:true,ab:false,b:false}");
        due("", "CALC:0 OBJECT:7 WORD:1 CALC:0 OBJECT:6 WORD:2 OBJECT:1 WORD:0", "{b:null,e:true,twelve chars:false}");
        due("", "CALC:0 OBJECT:0 WORD:1 OBJECT:0 WORD:2", "{a:true}");
        due("", "CALC:0 CALC:0 OBJECT:0 WORD:1 OBJECT:1 WORD:1 CALC:0 OBJECT:1 WORD:2 OBJECT:0 WORD:0",
                "{a:null,b:true}");
    }

    /** Looks at the SIZE that keep tells, or at the want of ROOM. */
    private static void dueSize(String steps, String filter, String want) {
        Script script = Script.with(steps);
        script.fill(0, filter);
        String told = Checks.told(() -> script.bench.run(0, 0));
        String size = told.equals("1") ? Checks.told(() -> script.bench.keep(1, 0)) : told;
        Checks.same("SIZE of " + filter + " on " + steps, size, want);
    }

    private static void sizes() {
        for (String kind : new String[] {"WORD:0", "WORD:1", "WORD:2", "NUMBER:1000", "STRING:7", "NOTHING"}) {
            dueSize("", kind, "1");
        }
        dueSize("", "OBJECT:7 SELF", "2");
        dueSize("", SIX_MEMBERS, "7");
        dueSize("", "ARRAY RANGE NUMBER:12000", "13");
        String eleven = "ARRAY RANGE NUMBER:10000";
        dueSize(eleven, "ARRAY COMMA SELF SELF", "23");
        dueSize(eleven, "ARRAY COMMA SELF COMMA SELF WORD:0", "24");
        dueSize(eleven, "ARRAY COMMA SELF COMMA SELF COMMA WORD:0 WORD:0", Checks.STATE);
        dueSize(eleven, "CALC:0 OBJECT:0 SELF OBJECT:1 SELF", "23");
        dueSize(eleven, "CALC:0 OBJECT:0 SELF CALC:0 OBJECT:1 SELF OBJECT:4 WORD:0", "24");
        dueSize(eleven, "CALC:0 OBJECT:0 SELF CALC:0 OBJECT:1 SELF OBJECT:4 NOTHING", "24");
        dueSize(eleven, "CALC:0 OBJECT:0 SELF CALC:0 OBJECT:1 SELF OBJECT:4 ARRAY WORD:0", Checks.STATE);
        dueSize(eleven, "CALC:0 ARRAY SELF ARRAY COMMA WORD:0 SELF", "24");
        dueSize(eleven, "CALC:0 ARRAY COMMA SELF WORD:0 ARRAY COMMA WORD:0 SELF", Checks.STATE);
        dueSize(eleven + ";ARRAY COMMA SELF SELF", "ARRAY SELF", "24");
        dueSize(eleven + ";ARRAY COMMA SELF SELF", "OBJECT:0 SELF", "24");
        dueSize(eleven + ";ARRAY COMMA SELF COMMA SELF WORD:0", "ARRAY SELF", Checks.STATE);
        dueSize(eleven + ";ARRAY COMMA SELF COMMA SELF WORD:0", "OBJECT:0 SELF", Checks.STATE);
        dueSize("ARRAY RANGE NUMBER:12000", "ARRAY COMMA SELF SELF", Checks.STATE);
        // The member that gives way leaves its SIZE behind.
        dueSize(eleven + ";CALC:0 OBJECT:0 SELF OBJECT:1 SELF", "CALC:0 SELF OBJECT:1 ARRAY RANGE NUMBER:11000", "24");
        dueSize(eleven + ";CALC:0 OBJECT:0 SELF OBJECT:1 SELF", "CALC:0 SELF OBJECT:1 ARRAY RANGE NUMBER:12000",
                Checks.STATE);
    }

    private static void depths() {
        due("", "ARRAY ARRAY ARRAY ARRAY SELF", "[[[[null]]]]");
        due("", "ARRAY ARRAY ARRAY ARRAY ARRAY SELF", "[[[[[null]]]]]");
        due("", "ARRAY ARRAY ARRAY ARRAY ARRAY ARRAY SELF", "no room");
        due("", "OBJECT:0 OBJECT:0 OBJECT:0 OBJECT:0 OBJECT:0 SELF", "{a:{a:{a:{a:{a:null}}}}}");
        due("", "OBJECT:0 OBJECT:0 OBJECT:0 OBJECT:0 OBJECT:0 OBJECT:0 SELF", "no room");
        due("", "OBJECT:0 ARRAY OBJECT:0 ARRAY OBJECT:1 WORD:2", "{a:[{a:[{b:true}]}]}");
        due("", "ARRAY OBJECT:0 ARRAY OBJECT:0 ARRAY OBJECT:1 WORD:2", "no room");
        String four = "ARRAY ARRAY ARRAY ARRAY SELF";
        due(four, "ARRAY COMMA SELF NOTHING", "[[[[[null]]]],[]]");
        due(four, "ARRAY COMMA NOTHING SELF", "[[],[[[[null]]]]]");
        due(four, "CALC:0 OBJECT:0 SELF OBJECT:1 NOTHING", "{a:[[[[null]]]],b:[]}");
        due("ARRAY " + four, "ARRAY COMMA SELF NOTHING", "no room");
        due("ARRAY " + four, "ARRAY COMMA NOTHING SELF", "no room");
        due("ARRAY " + four, "OBJECT:0 SELF", "no room");
        due("ARRAY " + four, "CALC:0 SELF ARRAY WORD:0", "[[[[[null]]]],null]");
        due("ARRAY " + four, "CALC:0 SELF SELF", "[[[[[null]]]],[[[[null]]]]]");
    }

    /** SIZE and DEPTH of a value are the same in runs long after the one that made it. */
    private static void depthsOfKeptValues() {
        Script script = Script.withStrings();
        script.become(0, "ARRAY COMMA WORD:2 ARRAY COMMA NUMBER:1500 COMMA STRING:7 OBJECT:2 STRING:0");
        script.become(1, "ARRAY COMMA NUMBER:7 COMMA STRING:2 COMMA ARRAY RANGE NUMBER:3000 NUMBER:9");
        script.become(2, "ARRAY RANGE NUMBER:12000");
        for (int round = 0; round < 3; round++) {
            Checks.same("DEPTH 3 in 2 more", script.ran("PIPE ARRAY ARRAY SELF LENGTH", 0), "1");
            Checks.same("DEPTH 3 in 3 more", script.ran("ARRAY OBJECT:0 ARRAY SELF", 0), "no room");
            Checks.same("DEPTH 2 in 3 more", script.ran("PIPE ARRAY ARRAY OBJECT:7 SELF LENGTH", 1), "1");
            Checks.same("DEPTH 2 in 4 more", script.ran("ARRAY ARRAY ARRAY OBJECT:7 SELF", 1), "no room");
            Checks.same("DEPTH 1 in 4 more", script.ran("PIPE ARRAY ARRAY ARRAY ARRAY SELF LENGTH", 2), "1");
            Checks.same("DEPTH 1 in 5 more", script.ran("ARRAY ARRAY ARRAY ARRAY ARRAY SELF", 2), "no room");
            Checks.same("DEPTH 0 in 5 more", script.ran("ARRAY ARRAY ARRAY ARRAY ARRAY INDEX NUMBER:5000", 2),
                    "[[[[[5]]]]]");
            Checks.same("DEPTH 0 in 6 more", script.ran("ARRAY ARRAY ARRAY ARRAY ARRAY ARRAY INDEX NUMBER:5000", 2),
                    "no room");
        }
    }

    private static void depthOfNothing() {
        due("", "ARRAY ARRAY ARRAY NOTHING", "[[[[]]]]");
        due("", "ARRAY ARRAY ARRAY ARRAY NOTHING", "[[[[[]]]]]");
        due("", "ARRAY ARRAY ARRAY ARRAY ARRAY NOTHING", "no room");
        due("", "OBJECT:0 OBJECT:0 OBJECT:0 OBJECT:0 NOTHING", "{a:{a:{a:{a:[]}}}}");
        due("", "OBJECT:0 OBJECT:0 OBJECT:0 OBJECT:0 OBJECT:0 NOTHING", "no room");
    }

    private static void goodValues() {
        String[] bad = {"WORD:0", "WORD:1"};
        String[] good = {"WORD:2", "NUMBER:0", "NUMBER:-1", "STRING:3", "NOTHING", "ARRAY WORD:1", "OBJECT:3 WORD:0"};
        for (String value : bad) {
            due(value, "NOT", "true");
            due(value, "ARRAY SELECT SELF", "[]");
            due("", "IF " + value + " NUMBER:1000 NUMBER:2000", "2");
            due("", "BOTH " + value + " WORD:2", "false");
            due("", "BOTH WORD:2 " + value, "false");
            due("", "EITHER " + value + " WORD:1", "false");
            due("", "EITHER WORD:1 " + value, "false");
            due("", "OR " + value + " NUMBER:2000", "2");
        }
        for (String value : good) {
            due(value, "NOT", "false");
            due(value, "PIPE ARRAY SELECT SELF LENGTH", "1");
            due("", "IF " + value + " NUMBER:1000 NUMBER:2000", "1");
            due("", "BOTH " + value + " WORD:2", "true");
            due("", "BOTH WORD:2 " + value, "true");
            due("", "EITHER " + value + " WORD:1", "true");
            due("", "EITHER WORD:1 " + value, "true");
            due("", "PIPE OR " + value + " RAISE NUMBER:1000", "1");
        }
    }

    /** Looks at all ways in which ORDER is used, for values that rise. */
    private static void dueRising(String... rising) {
        for (int i = 0; i < rising.length; i++) {
            for (int j = 0; j < rising.length; j++) {
                Script script = Script.withStrings();
                script.become(1, rising[i]);
                script.become(2, rising[j]);
                String both = rising[i] + " and " + rising[j];
                Checks.due("order of " + both, () -> script.bench.order(1, 2), Integer.compare(i, j));
            }
        }
    }

    private static void orderByKind() {
        dueRising("WORD:0", "WORD:1", "WORD:2", LEAST, GREATEST, "STRING:3", "STRING:7", "NOTHING",
                "ARRAY OBJECT:7 WORD:2", "OBJECT:3 WORD:0");
    }

    private static void orderOfNumbers() {
        dueRising(LEAST, LEAST + ";CALC:0 SELF NUMBER:1000", "NUMBER:-10000", "NUMBER:-9900", "NUMBER:-1",
                MILLIONTH + ";CALC:2 SELF NUMBER:-1000", "NUMBER:0", MILLIONTH, "NUMBER:1", "NUMBER:9900", "NUMBER:10000",
                GREATEST + ";CALC:2 SELF " + MILLIONTH, "NUMBER:1000000", "NUMBER:999999999",
                GREATEST + ";CALC:1 SELF NUMBER:1000", GREATEST);
    }

    /** A number with so many places, all 0 but the last one. */
    private static String oneWithPlaces(int places) {
        String[] last = {"NUMBER:1000", "NUMBER:100", "NUMBER:10", "NUMBER:1", "CALC:2 NUMBER:100 NUMBER:1",
            "CALC:2 NUMBER:10 NUMBER:1", MILLIONTH};
        return places == 0 ? "NUMBER:1000" : "CALC:0 NUMBER:1000 " + last[places];
    }

    private static void orderOfScales() {
        String[] rising = new String[9];
        rising[0] = "CALC:1 NUMBER:1000 " + MILLIONTH;
        for (int k = 1; k < 8; k++) {
            rising[k] = oneWithPlaces(k == 1 ? 0 : 8 - k);
        }
        rising[8] = "NUMBER:2000";
        dueRising(rising);
        String[] falling = new String[7];
        for (int k = 0; k < 7; k++) {
            falling[k] = rising[7 - k] + ";CALC:1 NUMBER:0 SELF";
        }
        dueRising(falling);
    }

    private static void orderOfTexts() {
        String[] rising = {"", " ", "  ", "Z", "a", "a ", "aaaaaaaaaaa", "aaaaaaaaaaaa", "aaaaaaaaaaab", "aab", "b", "~"};
        for (int i = 0; i < rising.length; i++) {
            for (int j = 0; j < rising.length; j++) {
                Script script = new Script();
                script.spell(0, rising[i]);
                script.spell(7, rising[j]);
                script.become(1, "STRING:0");
                script.become(2, "STRING:7");
                Checks.due("order of '" + rising[i] + "' and '" + rising[j] + "'", () -> script.bench.order(1, 2),
                        Integer.compare(i, j));
            }
        }
    }

    private static void orderOfArrays() {
        dueRising("NOTHING", "ARRAY WORD:0", "ARRAY COMMA WORD:0 WORD:0", "ARRAY COMMA WORD:0 WORD:2", "ARRAY WORD:1",
                "ARRAY RANGE NUMBER:1000", "ARRAY RANGE NUMBER:11000", "ARRAY RANGE NUMBER:12000",
                "CALC:0 ARRAY RANGE NUMBER:11000 ARRAY NUMBER:11001", "ARRAY NUMBER:1", "ARRAY NOTHING",
                "ARRAY COMMA NOTHING WORD:0", "ARRAY ARRAY WORD:0", "ARRAY OBJECT:0 WORD:0");
    }

    private static void orderOfObjects() {
        dueRising("OBJECT:3 NOTHING", "CALC:0 OBJECT:3 WORD:0 OBJECT:1 WORD:0", "OBJECT:0 WORD:0", "OBJECT:0 WORD:2",
                "OBJECT:0 OBJECT:0 WORD:0", SIX_MEMBERS, SIX_MEMBERS + ";CALC:0 SELF OBJECT:6 WORD:1", FIVE_MEMBERS,
                "CALC:0 OBJECT:0 WORD:0 OBJECT:1 WORD:2",
                "CALC:0 OBJECT:0 WORD:1 OBJECT:1 WORD:0", "CALC:0 OBJECT:0 WORD:0 OBJECT:4 WORD:0", "OBJECT:2 WORD:0",
                "OBJECT:1 WORD:0");
    }

    private static void alikeValues() {
        due("", "COMPARE:0 NUMBER:1000 CALC:0 NUMBER:500 NUMBER:500", "true");
        due("", "COMPARE:0 STRING:2 CALC:0 STRING:0 STRING:1", "true");
        due("", "COMPARE:0 NOTHING ARRAY EMPTY", "true");
        due("", "COMPARE:0 CALC:0 OBJECT:0 SELF OBJECT:1 SELF CALC:0 OBJECT:1 SELF OBJECT:0 SELF", "true");
        due("", "COMPARE:0 ARRAY NOTHING ARRAY ARRAY EMPTY", "true");
        due("", "COMPARE:0 NUMBER:1000 NUMBER:1001", "false");
        due("", "COMPARE:0 STRING:0 STRING:2", "false");
        due("", "COMPARE:0 WORD:0 WORD:1", "false");
    }

    private static void slotsAtFirst() {
        FilterBench x = new FilterBench();
        x.token(0, 0, 0);
        for (int slot = 0; slot < 8; slot++) {
            int n = slot;
            Checks.due("kind of slot " + n, () -> x.kind(n, 0), 0);
            Checks.due("run on slot " + n, () -> x.run(0, n), 1);
            Checks.due("keep in slot " + n, () -> x.keep(n, 0), 1);
        }
        Script script = Script.withStrings();
        for (int slot = 0; slot < 8; slot++) {
            script.become(slot, "NUMBER:" + 1000 * slot);
        }
        for (int slot = 0; slot < 8; slot++) {
            Checks.same("slot " + slot, script.shown(slot), Integer.toString(slot));
        }
    }

    private static void stringsAtFirst() {
        FilterBench x = new FilterBench();
        for (int string = 0; string < 8; string++) {
            int n = string;
            x.token(0, 7, n);
            Checks.due("run of STRING " + n, () -> x.run(0, 0), 1);
            Checks.due("keep of STRING " + n, () -> x.keep(1, 0), 1);
            Checks.due("kind of STRING " + n, () -> x.kind(1, 0), 4);
            Checks.due("length of STRING " + n, () -> x.length(1, 0), 0);
            Checks.due("wipe of STRING " + n, () -> x.wipe(1, n), 0);
            x.wipe(0, 0);
        }
    }

    /** A balanced expression of COMMAS over so many NUMBERS. */
    private static String commas(int numbers) {
        return numbers == 1 ? "NUMBER:1000" : "COMMA " + commas(numbers / 2) + " " + commas(numbers - numbers / 2);
    }

    private static void tokensOfFilters() {
        due("", commas(16), "1 1 1 1 1 1 1 1 1 1 1 1 1 1 1 1");
        Script script = Script.withStrings();
        script.fill(0, "SELECT " + commas(16));
        Checks.due("run of 32 TOKENS", () -> script.bench.run(0, 0), 16);
        Checks.due("steps of 32 TOKENS", () -> script.bench.count(1), 32);
        Checks.due("token 33", () -> script.bench.token(0, 0, 0), Checks.STATE);
        Checks.due("run of 32 TOKENS behind it", () -> script.bench.run(0, 0), 16);
        Checks.due("wipe of 32 TOKENS", () -> script.bench.wipe(0, 0), 32);
    }

    private static boolean isRight(String filter) {
        return !Script.withStrings().ran(filter, 0).equals("not right");
    }

    private static void dueRight(String filter, boolean want) {
        Checks.same(filter + " is RIGHT", Boolean.toString(isRight(filter)), Boolean.toString(want));
    }

    private static void partsOfTokens() {
        Checks.due("an empty filter", () -> new FilterBench().run(0, 0), Checks.ELEMENT);
        for (int op = 0; op < Script.PARTS.length; op++) {
            StringBuilder filter = new StringBuilder(Script.OPS.get(op));
            for (int selves = 0; selves < 5; selves++) {
                dueRight(filter.toString(), selves == Script.PARTS[op]);
                dueRight("PIPE SELF " + filter, selves == Script.PARTS[op]);
                dueRight("COMMA " + filter + " SELF", selves == Script.PARTS[op]);
                filter.append(" SELF");
            }
        }
    }

    private static void partsAtTheEnd() {
        StringBuilder selves = new StringBuilder();
        StringBuilder arrays = new StringBuilder();
        for (int tokens = 1; tokens <= 32; tokens++) {
            selves.append(" SELF");
            arrays.append(" ARRAY");
            dueRight(selves.toString(), tokens == 1);
            dueRight(arrays.toString(), false);
        }
        // Expressions of 31 and 32 TOKENS, and such as need one more.
        dueRight(commas(16), true);
        dueRight("NOT " + commas(16), false);
        dueRight("ARRAY " + commas(16), true);
        dueRight("COMMA " + commas(16), false);
        dueRight("IF NOT " + commas(15), false);
        dueRight("PIPE NOT " + commas(15), true);
        dueRight("PIPE " + commas(15), false);
        String seventeen = commas(17);
        dueRight(seventeen.substring(0, seventeen.lastIndexOf(' ')), false);
        Script script = Script.withStrings();
        script.fill(0, "COMMA SELF SELF");
        Checks.same("COMMA SELF SELF", script.ranFilter(0, 0), "null null");
        script.fill(0, "COMMA SELF");
        Checks.same("COMMA SELF where COMMA SELF SELF was", script.ranFilter(0, 0), "not right");
        script.fill(0, "SELF");
        Checks.same("SELF where COMMA SELF was", script.ranFilter(0, 0), "null");
    }

    /** An op so many times inside of itself, as part number which, around SELF. */
    private static String nested(int op, int which, int times) {
        if (times == 0) {
            return "SELF";
        }
        StringBuilder filter = new StringBuilder(Script.OPS.get(op));
        for (int part = 0; part < Script.PARTS[op]; part++) {
            filter.append(' ').append(part == which ? nested(op, which, times - 1) : "SELF");
        }
        return filter.toString();
    }

    private static void depthOfFilters() {
        for (int op = 0; op < Script.PARTS.length; op++) {
            for (int which = 0; which < Script.PARTS[op]; which++) {
                dueRight(nested(op, which, 6), true);
                dueRight(nested(op, which, 7), true);
                dueRight(nested(op, which, 8), false);
                dueRight(nested(op, which, 9), false);
            }
        }
        due("", nested(4, 0, 7), "null");
        due("", nested(5, 1, 7), "null null null null null null null null");
    }

    private static void variablesAtFirst() {
        for (int a = 0; a < 4; a++) {
            due("STRING:0", "VARIABLE:" + a, "null");
            StringBuilder want = new StringBuilder();
            for (int other = 0; other < 4; other++) {
                want.append(other == 0 ? "" : " ").append(other == a ? "'a'" : "null");
            }
            String all = "COMMA VARIABLE:0 COMMA VARIABLE:1 COMMA VARIABLE:2 VARIABLE:3";
            due("STRING:0", "BIND:" + a + " SELF " + all, want.toString());
            Script script = Script.withStrings();
            String ways = " STRING:0 RAISE; STRING:0 RANGE NUMBER:17000; STRING:0 SELF";
            for (String way : ways.split(";")) {
                script.ran("BIND:" + a + way, 0);
                Checks.same("VARIABLE " + a + " behind BIND" + way, script.ran("VARIABLE:" + a, 0), "null");
            }
        }
    }

    private static final String PAIR = "ARRAY COMMA NUMBER:3000 STRING:4";

    private static void emptyRows() {
        String[] filters = {
            "INDEX EMPTY", "PIPE EMPTY RAISE", "OBJECT:0 EMPTY", "CALC:0 SELF EMPTY", "CALC:0 EMPTY SELF",
            "COMPARE:0 SELF EMPTY", "COMPARE:0 EMPTY SELF", "BOTH EMPTY RAISE", "BOTH SELF EMPTY", "EITHER EMPTY RAISE",
            "EITHER WORD:1 EMPTY", "IF EMPTY RAISE RAISE", "BIND:0 EMPTY RAISE", "RANGE EMPTY", "HAS EMPTY",
            "SELECT EMPTY"};
        for (String filter : filters) {
            due(PAIR, filter, "");
        }
    }

    private static void inOrder() {
        due(PAIR, "INDEX COMMA NUMBER:1000 NUMBER:0", "'c' 3");
        due(PAIR, "PIPE EACH COMMA SELF LENGTH", "3 3 'c' 1");
        due(PAIR, "OBJECT:0 EACH", "{a:3} {a:'c'}");
        due("", "CALC:1 COMMA NUMBER:1000 NUMBER:2000 COMMA NUMBER:10000 NUMBER:20000", "-9 -8 -19 -18");
        due("", "COMPARE:2 COMMA NUMBER:1000 NUMBER:2000 COMMA NUMBER:2000 NUMBER:1000", "true false false false");
        due("", "BOTH COMMA WORD:1 WORD:2 COMMA WORD:2 WORD:1", "false true false");
        due("", "EITHER COMMA WORD:1 WORD:2 COMMA WORD:2 WORD:1", "true false true");
        due("", "IF COMMA WORD:2 COMMA WORD:1 WORD:2 COMMA NUMBER:1000 NUMBER:2000 NUMBER:3000", "1 2 3 1 2");
        due(PAIR, "BIND:0 EACH COMMA VARIABLE:0 LENGTH", "3 2 'c' 2");
        due("", "RANGE COMMA NUMBER:2000 NUMBER:3000", "0 1 0 1 2");
        due(PAIR, "HAS COMMA NUMBER:2000 COMMA NUMBER:1000 NUMBER:2000", "false true false");
        due(PAIR, "SELECT COMMA WORD:2 COMMA WORD:1 WORD:2", "[3,'c'] [3,'c']");
    }

    private static void errorsInside() {
        due(PAIR, "INDEX COMMA NUMBER:0 COMMA STRING:0 NUMBER:1000", "3 !1");
        due("", "PIPE COMMA NUMBER:1000 COMMA WORD:2 NUMBER:2000 LENGTH", "1 !1");
        due("", "PIPE COMMA NUMBER:1000 NUMBER:2000 COMMA SELF RAISE", "1 !1");
        due("", "CALC:0 COMMA NUMBER:1000 COMMA STRING:0 NUMBER:2000 NUMBER:1000", "2 !1");
        due("", "CALC:3 NUMBER:5000 COMMA NUMBER:3000 COMMA NUMBER:0 NUMBER:4000", "2 !2");
        due("", "CALC:0 COMMA NUMBER:1000 RAISE COMMA NUMBER:1000 NUMBER:2000", "2 !null");
        due("", "COMPARE:0 COMMA NUMBER:1000 RAISE COMMA NUMBER:1000 NUMBER:2000", "true !null");
        due("", "BOTH COMMA WORD:1 COMMA WORD:2 WORD:1 COMMA WORD:2 RAISE", "false true !null");
        due("", "EITHER COMMA WORD:2 COMMA WORD:1 WORD:2 COMMA WORD:1 RAISE", "true false !null");
        due("STRING:0", "IF COMMA WORD:2 COMMA WORD:1 WORD:2 SELF EACH", "'a' !1");
        due("", "BIND:0 COMMA NUMBER:1000 COMMA WORD:2 NUMBER:2000 PIPE VARIABLE:0 LENGTH", "1 !1");
        due("", "RANGE COMMA NUMBER:1000 COMMA STRING:0 NUMBER:2000", "0 !1");
        due(PAIR, "HAS COMMA NUMBER:0 COMMA STRING:0 NUMBER:1000", "true !1");
    }

    private static void errorsAtLast() {
        due(PAIR, "INDEX COMMA NUMBER:0 RAISE", "3 ![3,'c']");
        due(PAIR, "PIPE COMMA EACH RAISE LENGTH", "3 1 ![3,'c']");
        due(PAIR, "OBJECT:0 COMMA EACH RAISE", "{a:3} {a:'c'} ![3,'c']");
        due("", "CALC:0 COMMA NUMBER:1000 NUMBER:2000 COMMA NUMBER:1000 RAISE", "2 3 !null");
        due("", "COMPARE:0 COMMA NUMBER:1000 NUMBER:2000 COMMA NUMBER:1000 RAISE", "true false !null");
        due("", "BOTH COMMA WORD:1 RAISE WORD:2", "false !null");
        due("", "EITHER COMMA WORD:1 RAISE COMMA WORD:2 WORD:1", "true false !null");
        due(PAIR, "IF COMMA WORD:2 RAISE EACH SELF", "3 'c' ![3,'c']");
        due(PAIR, "BIND:0 COMMA EACH RAISE VARIABLE:0", "3 'c' ![3,'c']");
        due("", "RANGE COMMA NUMBER:2000 RAISE", "0 1 !null");
        due(PAIR, "HAS COMMA NUMBER:0 RAISE", "true ![3,'c']");
        due(PAIR, "SELECT COMMA WORD:2 RAISE", "[3,'c'] ![3,'c']");
        // The ERROR inside comes before the one at last.
        due(PAIR, "INDEX COMMA STRING:0 RAISE", "!1");
        due(PAIR, "PIPE COMMA WORD:2 RAISE LENGTH", "!1");
        due(PAIR, "CALC:3 NUMBER:1000 COMMA NUMBER:0 RAISE", "!2");
        due(PAIR, "CALC:0 COMMA STRING:0 RAISE NUMBER:0", "!1");
        due(PAIR, "RANGE COMMA STRING:0 RAISE", "!1");
        due(PAIR, "HAS COMMA STRING:0 RAISE", "!1");
    }

    private static void errorsOfTokens() {
        String[] wrongKinds = {
            "PIPE WORD:2 FIELD:0", "PIPE WORD:2 INDEX NUMBER:0", "EACH", "CALC:0 WORD:2 WORD:2", "CALC:1 SELF SELF",
            "CALC:2 SELF SELF", "CALC:3 SELF SELF", "PIPE WORD:2 LENGTH", "KEYS", "SORT", "SUM", "RANGE SELF",
            "HAS NUMBER:0", "FLOOR"};
        for (String filter : wrongKinds) {
            dueFault(filter, 1);
        }
        dueFault("CALC:3 NUMBER:1000 NUMBER:0", 2);
        due("", "CALC:3 NUMBER:1000 NUMBER:1000", "0");
    }

    private static void dueFault(String filter, int number) {
        Script script = Script.withStrings();
        script.fill(0, filter);
        Checks.due("run of " + filter, () -> script.bench.run(0, 0), Checks.ERROR);
        Checks.due("OUTPUTS of " + filter, () -> script.bench.count(0), 0);
        Checks.due("SIZE of its FAULT", () -> script.bench.keep(1, -1), 1);
        Checks.due("kind of its FAULT", () -> script.bench.kind(1, 0), 3);
        Checks.due("M of its FAULT", () -> script.bench.number(1, 0, false), number);
        Checks.due("S of its FAULT", () -> script.bench.number(1, 0, true), 0);
    }

    private static final String STEPS_148 = "REDUCE:0 RANGE NUMBER:16000 SELF "
            + "COMMA COMMA SELF SELF COMMA COMMA SELF SELF SELF";
    private static final String[] ROOMLESS = {
        "NUMBER:1000000001", "CALC:2 NUMBER:1 CALC:2 NUMBER:1 NUMBER:1", "CALC:0 STRING:7 STRING:0",
        "ARRAY RANGE NUMBER:13000", "ARRAY ARRAY ARRAY ARRAY ARRAY NOTHING", "RANGE NUMBER:17000",
        "PIPE ARRAY RANGE NUMBER:12000 ARRAY COMMA SELF SELF", "CALC:0 OBJECT:3 SELF " + SIX_MEMBERS,
        "COMMA SELF COMMA SELF " + STEPS_148};

    private static void notCaught() {
        for (String filter : ROOMLESS) {
            due("", filter, "no room");
            due("", "TRY " + filter + " SELF", "no room");
            due("", "OR " + filter + " SELF", "no room");
            due("", "COMMA SELF " + filter, "no room");
        }
        due("", "TRY COMMA SELF RAISE " + ROOMLESS[0], "no room");
        due("", "OR WORD:0 " + ROOMLESS[0], "no room");
        due("", "TRY SELF " + ROOMLESS[0], "null");
        due("", "OR WORD:2 " + ROOMLESS[0], "true");
    }

    private static String numbers(int count) {
        StringBuilder all = new StringBuilder();
        for (int k = 0; k < count; k++) {
            all.append(k == 0 ? "" : " ").append(k);
        }
        return all.toString();
    }

    private static void dueCount(String steps, String filter, String want) {
        Script script = Script.with(steps);
        script.fill(0, filter);
        Checks.due(filter + " on " + steps, () -> script.bench.run(0, 0), want);
        String outputs = want.equals(Checks.STATE) ? "0" : want;
        Checks.due("OUTPUTS of " + filter + " on " + steps, () -> script.bench.count(0), outputs);
    }

    private static void rows() {
        due("", "RANGE NUMBER:15000", numbers(15));
        due("", "RANGE NUMBER:16000", numbers(16));
        due("", "RANGE NUMBER:17000", "no room");
        String eight = "ARRAY RANGE NUMBER:8000";
        dueCount(eight, "COMMA EACH EACH", "16");
        dueCount(eight, "COMMA EACH COMMA EACH SELF", Checks.STATE);
        dueCount(eight, "COMMA SELF COMMA EACH EACH", Checks.STATE);
        dueCount("", "RANGE COMMA RANGE NUMBER:6000 NUMBER:1000", "16");
        dueCount("", "RANGE COMMA RANGE NUMBER:6000 NUMBER:2000", Checks.STATE);
        dueCount("", "PIPE COMMA RANGE NUMBER:6000 NUMBER:1000 RANGE SELF", "16");
        dueCount("", "PIPE COMMA RANGE NUMBER:6000 NUMBER:2000 RANGE SELF", Checks.STATE);
        dueCount("", "BIND:0 COMMA RANGE NUMBER:6000 NUMBER:1000 RANGE VARIABLE:0", "16");
        dueCount("", "BIND:0 COMMA RANGE NUMBER:6000 NUMBER:2000 RANGE VARIABLE:0", Checks.STATE);
        dueCount("", "CALC:0 RANGE NUMBER:4000 RANGE NUMBER:4000", "16");
        dueCount("", "CALC:0 RANGE NUMBER:6000 RANGE NUMBER:3000", Checks.STATE);
        dueCount("", "COMPARE:0 RANGE NUMBER:8000 RANGE NUMBER:2000", "16");
        dueCount("", "COMPARE:0 RANGE NUMBER:9000 RANGE NUMBER:2000", Checks.STATE);
        dueCount("", "BOTH RANGE NUMBER:4000 RANGE NUMBER:4000", "16");
        dueCount("", "BOTH COMMA RANGE NUMBER:4000 WORD:1 RANGE NUMBER:4000", Checks.STATE);
        dueCount("", "EITHER COMMA WORD:1 WORD:1 RANGE NUMBER:8000", "16");
        dueCount("", "EITHER COMMA WORD:1 COMMA WORD:1 WORD:2 RANGE NUMBER:8000", Checks.STATE);
        dueCount("", "IF RANGE NUMBER:4000 RANGE NUMBER:4000 SELF", "16");
        dueCount("", "IF COMMA RANGE NUMBER:4000 WORD:1 RANGE NUMBER:4000 SELF", Checks.STATE);
        dueCount("", "TRY COMMA RANGE NUMBER:15000 RAISE SELF", "16");
        dueCount("", "TRY COMMA RANGE NUMBER:16000 RAISE SELF", Checks.STATE);
        dueCount("", "TRY COMMA RANGE NUMBER:16000 RAISE EMPTY", "16");
        dueCount("", "OR WORD:1 RANGE NUMBER:16000", "16");
        dueCount("", "OR WORD:1 RANGE NUMBER:17000", Checks.STATE);
        dueCount("", "SELECT RANGE NUMBER:16000", "16");
        dueCount("", "OBJECT:0 RANGE NUMBER:16000", "16");
        dueCount("", "INDEX RANGE NUMBER:16000", "16");
        dueCount("NOTHING", "HAS RANGE NUMBER:16000", "16");
        due(eight, "COMMA EACH COMMA EACH RAISE", numbers(8) + " " + numbers(8) + " ![0,1,2,3,4,5,6,7]");
    }

    private static void rowsInside() {
        String sixteen = "RANGE NUMBER:16000";
        String more = "RANGE NUMBER:17000";
        String[] wholes = {
            "PIPE # EMPTY", "OR # SELF", "REDUCE:0 # SELF SELF", "REDUCE:0 SELF # SELF", "REDUCE:0 SELF SELF #",
            "SELECT PIPE # NOT", "IF # EMPTY SELF", "BIND:0 # EMPTY", "CALC:0 EMPTY #", "CALC:0 # NUMBER:0",
            "COMPARE:0 # NUMBER:0", "ARRAY PIPE # EMPTY", "BOTH WORD:2 #"};
        for (String filter : wholes) {
            Checks.same(filter + " with a row of 16 in it has ROOM",
                    Boolean.toString(!Script.withStrings().ran(filter.replace("#", sixteen), 0).equals("no room")),
                            "true");
            due("", filter.replace("#", more), "no room");
        }
        due("", "OR COMMA WORD:1 RANGE NUMBER:15000 SELF", numbers(15));
        due("", "OR COMMA WORD:1 RANGE NUMBER:16000 SELF", "no room");
        due("", "SELECT COMMA WORD:1 RANGE NUMBER:16000", "no room");
    }

    private static void partsInARow() {
        String twelve = "ARRAY RANGE NUMBER:12000;";
        dueCount(twelve + "ARRAY COMMA SELF WORD:0", "ALL", "15");
        dueCount(twelve + "ARRAY COMMA SELF COMMA WORD:0 WORD:0", "ALL", "16");
        dueCount(twelve + "ARRAY COMMA SELF COMMA WORD:0 COMMA WORD:0 WORD:0", "ALL", Checks.STATE);
    }

    private static void steps() {
        Script.dueSteps("", STEPS_148, 148);
        String[] filters = {"ARRAY " + STEPS_148, "ARRAY ARRAY " + STEPS_148, "COMMA " + STEPS_148 + " SELF",
            "COMMA EMPTY " + STEPS_148, "COMMA " + STEPS_148 + " RAISE"};
        int[] counts = {149, 150, 150, 150, 150};
        for (int k = 0; k < filters.length; k++) {
            Script.dueSteps("", filters[k], counts[k]);
        }
        due("", "ARRAY " + STEPS_148, "[null]");
        due("", "ARRAY ARRAY " + STEPS_148, "[[null]]");
        due("", "COMMA " + STEPS_148 + " RAISE", "null !null");
        String[] roomless = {"ARRAY ARRAY ARRAY " + STEPS_148, "COMMA " + STEPS_148 + " ARRAY SELF",
            "COMMA " + STEPS_148 + " PIPE EMPTY SELF", "ARRAY COMMA " + STEPS_148 + " EMPTY",
            "ARRAY COMMA " + STEPS_148 + " RAISE"};
        for (String filter : roomless) {
            due("", filter, "no room");
            Script.dueSteps("", filter, 0);
        }
        Script script = Script.withStrings();
        script.fill(0, "ARRAY ARRAY " + STEPS_148);
        for (int run = 0; run < 3; run++) {
            Checks.due("150 steps anew in each run", () -> script.bench.run(0, 0), 1);
        }
    }

    private static void values() {
        String run = "Promises 5 run and 9 number";
        Checks.sentence("Promise 7 kind", "VALUES: NULL 0, FALSE 1, TRUE 2, NUMBER 3",
                TermsBoundariesTest::kindsAsNumbered);
        Checks.sentence(run, "S 0 .. 6", TermsBoundariesTest::scales);
        Checks.sentence(run, "and the least there is", TermsBoundariesTest::leastScales);
        Checks.sentence(run + ", the greatest", "M from -999999999 to 999999999", TermsBoundariesTest::greatestWholes);
        Checks.sentence(run + ", the least", "M from -999999999 to 999999999", TermsBoundariesTest::leastWholes);
        Checks.sentence(run, "NUMBER: a / 1000", TermsBoundariesTest::wholesOfTokens);
        Checks.sentence("Promise 5 run", "TEXT 4 (at most 12 characters 32 .. 126)", TermsBoundariesTest::texts);
        Checks.sentence("Promise 5 run", "ARRAY 5 (at most 12 values in order)", TermsBoundariesTest::arrays);
        Checks.sentence("Promise 5 run", "OBJECT 6 (at most 6 MEMBERS", TermsBoundariesTest::members);
        Checks.sentence("Promise 5 run", "each a TEXT as its name and a value, by rising name, no name twice",
                TermsBoundariesTest::names);
        Checks.sentence("Promises 5 run and 6 keep", "SIZE of a value: 1 and the SIZES of all values in it (names don't "
                + "count), at most 24", TermsBoundariesTest::sizes);
        Checks.sentence("Promise 5 run", "or 1 and the greatest DEPTH in it, for ARRAYS and OBJECTS",
                TermsBoundariesTest::depths);
        Checks.sentence("Promise 5 run, kept values", "at most 5", TermsBoundariesTest::depthsOfKeptValues);
        Checks.sentence("Promise 5 run", "(1 with nothing in them), at most 5", TermsBoundariesTest::depthOfNothing);
        Checks.sentence("Promise 5 run", "GOOD are all but NULL and FALSE.", TermsBoundariesTest::goodValues);
    }

    private static void orders() {
        String order = "Promise 11 order";
        Checks.sentence(order, "The ORDER of values: by kind as numbered", TermsBoundariesTest::orderByKind);
        Checks.sentence(order, "NUMBERS by size", TermsBoundariesTest::orderOfNumbers);
        Checks.sentence(order + ", all S", "NUMBERS by size", TermsBoundariesTest::orderOfScales);
        Checks.sentence(order, "TEXTS as in a dictionary, by characters, a beginning before what goes on",
                TermsBoundariesTest::orderOfTexts);
        Checks.sentence(order, "ARRAYS item by item likewise", TermsBoundariesTest::orderOfArrays);
        Checks.sentence(order, "OBJECTS by their names as ARRAYS of TEXTS, then by their values in the order of names.",
                TermsBoundariesTest::orderOfObjects);
        Checks.sentence("Promise 5 run", "ALIKE: neither is before the other.", TermsBoundariesTest::alikeValues);
    }

    private static void filters() {
        Checks.sentence("Promises 1, 5 and 6", "SLOTS 0 .. 7 hold a value each, NULL at first.",
                TermsBoundariesTest::slotsAtFirst);
        Checks.sentence("Promises 1 and 5", "STRINGS 0 .. 7 are TEXTS, empty at first",
                TermsBoundariesTest::stringsAtFirst);
        Checks.sentence("Promises 3 and 5", "each at most 32 TOKENS (op, a)", TermsBoundariesTest::tokensOfFilters);
        Checks.sentence("Promise 5 run", "a token and behind it its parts, so many expressions as are said; not more",
                TermsBoundariesTest::partsOfTokens);
        Checks.sentence("Promise 5 run, at the last TOKEN", "so many expressions as are said; not more",
                TermsBoundariesTest::partsAtTheEnd);
        Checks.sentence("Promise 5 run", "and none inside of more than 7 others: else the filter is not RIGHT.",
                TermsBoundariesTest::depthOfFilters);
        Checks.sentence("Promise 5 run", "VARIABLES 0 .. 3 (NULL at first)", TermsBoundariesTest::variablesAtFirst);
    }

    private static void rowsAndRoom() {
        String run = "Promise 5 run";
        Checks.sentence(run + ", no values", "comes to a ROW of values", TermsBoundariesTest::emptyRows);
        Checks.sentence(run, "FOR EACH of a row means: in order; what comes of it is put behind",
                TermsBoundariesTest::inOrder);
        Checks.sentence(run, "an ERROR there ends all", TermsBoundariesTest::errorsInside);
        Checks.sentence(run, "if the row was ended by an ERROR, that ends all at last",
                TermsBoundariesTest::errorsAtLast);
        Checks.sentence(run, "ERRORS of tokens themselves have as their value the NUMBER 1 (a wrong kind), 2 (a rest by zero).",
                TermsBoundariesTest::errorsOfTokens);
        Checks.sentence(run, "ROOM: what ends a run at once, not caught by TRY or OR", TermsBoundariesTest::notCaught);
        Checks.sentence(run, "a ROW of more than 16 values", TermsBoundariesTest::rows);
        Checks.sentence(run + ", inside of others", "a ROW of more than 16 values", TermsBoundariesTest::rowsInside);
        Checks.sentence(run + ", ALL", "a ROW of more than 16 values", TermsBoundariesTest::partsInARow);
        Checks.sentence("Promises 5 run and 12 count", "the 151st time that a token begins to be worked out on a value.",
                TermsBoundariesTest::steps);
    }

    public static void main(String[] args) {
        values();
        orders();
        filters();
        rowsAndRoom();
        Checks.end();
    }
}
