/** The boundaries of each of the tokens 0 .. 34, as the section Terms says them: a test for each sentence. */
public final class TokensBoundariesTest {
    private static final String TWELVE = "ARRAY RANGE NUMBER:12000";
    private static final String THREE = "ARRAY COMMA STRING:0 COMMA STRING:1 STRING:4";
    private static final String AB = "CALC:0 OBJECT:0 NUMBER:1000 OBJECT:1 STRING:4";
    private static final String GREATEST = "CALC:0 CALC:2 NUMBER:999999000 NUMBER:1000000 NUMBER:999000";
    private static final String LEAST = GREATEST + ";CALC:2 SELF NUMBER:-1000";
    private static final String MILLIONTH = "CALC:2 NUMBER:1 NUMBER:1";
    private static final String SIX_MEMBERS = "CALC:0 CALC:0 OBJECT:0 NUMBER:0 OBJECT:2 NUMBER:1000 "
            + "CALC:0 CALC:0 OBJECT:1 NUMBER:2000 OBJECT:4 NUMBER:3000 CALC:0 OBJECT:5 NUMBER:4000 OBJECT:6 NUMBER:5000";
    private static final String[] KINDS = {
        "WORD:0", "WORD:1", "WORD:2", "NUMBER:2500", "STRING:2", "ARRAY NUMBER:1000", "OBJECT:0 NUMBER:1000"};
    private static final String[] SHOWN = {"null", "false", "true", "2.5", "'ab'", "[1]", "{a:1}"};

    private static void due(String steps, String filter, String want) {
        Script.due(steps, filter, want);
    }

    /** What comes of a filter on a value of each of the seven kinds. */
    private static void dueOnKinds(String filter, String... wants) {
        for (int k = 0; k < KINDS.length; k++) {
            due(KINDS[k], filter, wants[k]);
        }
    }

    private static void self() {
        dueOnKinds("SELF", SHOWN);
    }

    private static void field() {
        dueOnKinds("FIELD:0", "null", "!1", "!1", "!1", "!1", "!1", "1");
        due(AB, "FIELD:1", "'c'");
        due(AB, "FIELD:2", "null");
        due(AB, "FIELD:3", "null");
        due("OBJECT:3 WORD:2", "FIELD:3", "true");
        due("OBJECT:3 WORD:2", "FIELD:0", "null");
        due("OBJECT:7 WORD:2", "FIELD:7", "true");
        due("OBJECT:0 WORD:0", "FIELD:0", "null");
        due(SIX_MEMBERS, "COMMA FIELD:0 COMMA FIELD:6 FIELD:7", "0 5 null");
    }

    private static void fieldReadsTheString() {
        Script script = Script.with(AB);
        script.fill(1, "FIELD:0");
        Checks.same("FIELD of STRING 0", script.ranFilter(1, 0), "1");
        script.bench.wipe(1, 0);
        Checks.same("FIELD of an empty STRING 0", script.ranFilter(1, 0), "null");
        script.bench.letter(0, 'b');
        Checks.same("FIELD of another STRING 0", script.ranFilter(1, 0), "'c'");
        Checks.same("the OBJECT with the old names", script.shown(0), "{a:1,b:'c'}");
    }

    private static void indexOfNull() {
        for (String kind : KINDS) {
            due("", "INDEX " + kind, "null");
        }
    }

    private static void indexOfArrays() {
        due(THREE, "INDEX COMMA NUMBER:0 COMMA NUMBER:2000 NUMBER:3000", "'a' 'c' null");
        due(THREE, "INDEX COMMA NUMBER:2999 NUMBER:999", "'c' 'a'");
        due(THREE, "INDEX COMMA NUMBER:-1 COMMA NUMBER:-1000 NUMBER:-1001", "'c' 'c' 'b'");
        due(THREE, "INDEX COMMA NUMBER:-2000 COMMA NUMBER:-2001 COMMA NUMBER:-3000 NUMBER:-3001", "'b' 'a' 'a' null");
        due(THREE, "INDEX COMMA NUMBER:-4000 NUMBER:-6000", "null null");
        due(THREE, "INDEX COMMA NUMBER:2147483000 NUMBER:-2147483000", "null null");
        due(THREE, "INDEX COMMA " + GREATEST + " CALC:1 NUMBER:0 " + GREATEST, "null null");
        due(THREE, "INDEX " + MILLIONTH, "'a'");
        due(THREE, "INDEX CALC:1 NUMBER:0 " + MILLIONTH, "'c'");
        due("NOTHING", "INDEX COMMA NUMBER:0 COMMA NUMBER:-1000 NUMBER:1000", "null null null");
        due(TWELVE, "INDEX COMMA NUMBER:11000 COMMA NUMBER:12000 COMMA NUMBER:-12000 NUMBER:-12001", "11 null 0 null");
    }

    private static void indexOfObjects() {
        due(AB, "INDEX COMMA STRING:0 COMMA STRING:1 COMMA STRING:2 STRING:3", "1 'c' null null");
        due("OBJECT:3 WORD:2", "INDEX COMMA STRING:3 STRING:0", "true null");
        due(SIX_MEMBERS, "INDEX COMMA STRING:0 COMMA STRING:6 STRING:7", "0 5 null");
    }

    private static void indexOfOthers() {
        for (int v = 1; v < KINDS.length; v++) {
            for (int i = 0; i < KINDS.length; i++) {
                String want = v == 5 && i == 3 || v == 6 && i == 4 ? "null" : "!1";
                due(KINDS[v], "INDEX " + KINDS[i], want);
            }
        }
    }

    private static void each() {
        dueOnKinds("EACH", "!1", "!1", "!1", "!1", "!1", "1", "1");
        due("NOTHING", "EACH", "");
        due(THREE, "EACH", "'a' 'b' 'c'");
        due(TWELVE, "EACH", "0 1 2 3 4 5 6 7 8 9 10 11");
        due(SIX_MEMBERS, "EACH", "0 1 2 3 4 5");
        due("ARRAY NOTHING", "EACH", "[]");
    }

    private static void pipe() {
        due(THREE, "PIPE EACH OBJECT:0 SELF", "{a:'a'} {a:'b'} {a:'c'}");
        due(THREE, "PIPE EMPTY SELF", "");
        due(THREE, "PIPE EACH EMPTY", "");
        Script.dueSteps(THREE, "PIPE EMPTY SELF", 2);
        Script.dueSteps(THREE, "PIPE EACH SELF", 5);
    }

    private static void comma() {
        due(THREE, "COMMA EACH LENGTH", "'a' 'b' 'c' 3");
        due(THREE, "COMMA EMPTY LENGTH", "3");
        due(THREE, "COMMA LENGTH EMPTY", "3");
        due(THREE, "COMMA EMPTY EMPTY", "");
        due("", "COMMA RAISE NUMBER:1000", "!null");
        Script.dueSteps("", "COMMA RAISE NUMBER:1000", 2);
        due("", "COMMA COMMA NUMBER:1000 RAISE NUMBER:2000", "1 !null");
        due("", "COMMA NUMBER:1000 RAISE", "1 !null");
    }

    private static void literals() {
        due("", "COMMA NUMBER:1 COMMA NUMBER:-1 NUMBER:0", "0.001 -0.001 0");
        due("", "COMMA WORD:0 COMMA WORD:1 WORD:2", "null false true");
        due("", "NOTHING", "[]");
        due(THREE, "ARRAY EMPTY", "[]");
    }

    private static void strings() {
        due("", "COMMA STRING:0 COMMA STRING:3 STRING:7", "'a' '' 'twelve chars'");
        Script script = Script.withStrings();
        script.fill(1, "STRING:7");
        script.bench.wipe(1, 7);
        Checks.same("STRING 7 behind wipe", script.ranFilter(1, 0), "''");
        script.bench.letter(7, 'z');
        Checks.same("STRING 7 behind letter", script.ranFilter(1, 0), "'z'");
    }

    private static void array() {
        due(THREE, "ARRAY EACH", "['a','b','c']");
        due(THREE, "ARRAY SELF", "[['a','b','c']]");
        due(THREE, "ARRAY COMMA EACH RAISE", "!['a','b','c']");
        due("", "ARRAY RAISE", "!null");
        // There is no ARRAY to have too much in it.
        due("", "ARRAY COMMA RANGE NUMBER:12000 RAISE", "!null");
        due("", "ARRAY COMMA RANGE NUMBER:13000 RAISE", "!null");
    }

    private static void object() {
        due(THREE, "OBJECT:7 EACH", "{twelve chars:'a'} {twelve chars:'b'} {twelve chars:'c'}");
        due(THREE, "OBJECT:3 EMPTY", "");
        due("", "OBJECT:3 COMMA SELF RAISE", "{:null} !null");
        Script script = Script.with("OBJECT:0 SELF");
        script.bench.letter(0, 'z');
        Checks.same("an OBJECT keeps its name", script.shown(0), "{a:null}");
        Checks.same("an OBJECT with the new STRING", script.ran("COMMA SELF OBJECT:0 SELF", 0),
                "{a:null} {az:{a:null}}");
    }

    /** CALC a on all pairs of kinds; the wants are those of the pairs of one kind, and of NULL with others for a 0. */
    private static void dueOnPairs(int a, String... sameKinds) {
        for (int x = 0; x < KINDS.length; x++) {
            for (int y = 0; y < KINDS.length; y++) {
                String want = x == y ? sameKinds[x] : "!1";
                if (a == 0 && (x == 0 || y == 0)) {
                    want = SHOWN[x + y];
                }
                due("", "CALC:" + a + " " + KINDS[x] + " " + KINDS[y], want);
            }
        }
    }

    private static void pairs() {
        due("", "CALC:0 COMMA NUMBER:1000 NUMBER:2000 COMMA NUMBER:10000 NUMBER:20000", "11 12 21 22");
        Script.dueSteps("", "CALC:0 COMMA NUMBER:1000 NUMBER:2000 COMMA NUMBER:10000 NUMBER:20000", 10);
        due("", "CALC:0 RAISE EMPTY", "");
        Script.dueSteps("", "CALC:0 RAISE EMPTY", 2);
        Script.dueSteps("", "CALC:0 EMPTY COMMA NUMBER:1000 NUMBER:2000", 6);
        Script.dueSteps("", "COMPARE:0 EMPTY COMMA NUMBER:1000 NUMBER:2000", 6);
        due("", "COMPARE:0 RAISE EMPTY", "");
    }

    private static void sums() {
        dueOnPairs(0, "null", "!1", "!1", "5", "'abab'", "[1,1]", "{a:1}");
        due("", "CALC:0 STRING:0 STRING:1", "'ab'");
        due("", "CALC:0 STRING:3 STRING:3", "''");
        due("", "CALC:0 ARRAY STRING:0 ARRAY STRING:1", "['a','b']");
        due("", "CALC:0 NOTHING NOTHING", "[]");
        due(GREATEST, "CALC:0 SELF CALC:1 NUMBER:0 SELF", "0");
    }

    private static void sumsOfObjects() {
        due(AB, "CALC:0 SELF OBJECT:0 WORD:2", "{a:true,b:'c'}");
        due(AB, "CALC:0 OBJECT:0 WORD:2 SELF", "{a:1,b:'c'}");
        due(AB, "CALC:0 SELF OBJECT:1 WORD:0", "{a:1,b:null}");
        due(AB, "CALC:0 SELF OBJECT:2 WORD:0", "{a:1,ab:null,b:'c'}");
        due(AB, "CALC:0 OBJECT:3 WORD:0 SELF", "{:null,a:1,b:'c'}");
        due(AB, "CALC:0 OBJECT:7 WORD:0 SELF", "{a:1,b:'c',twelve chars:null}");
        due(SIX_MEMBERS, "CALC:0 SELF OBJECT:6 WORD:0", "{a:0,ab:1,b:2,c:3,d:4,e:null}");
        due(SIX_MEMBERS, "CALC:0 CALC:0 OBJECT:5 WORD:0 OBJECT:0 WORD:1 SELF", "{a:0,ab:1,b:2,c:3,d:4,e:5}");
    }

    private static void differences() {
        dueOnPairs(1, "!1", "!1", "!1", "0", "!1", "[]", "!1");
        due(THREE, "CALC:1 SELF NOTHING", "['a','b','c']");
        due(THREE, "CALC:1 NOTHING SELF", "[]");
        due(THREE, "CALC:1 SELF ARRAY STRING:0", "['b','c']");
        due(THREE, "CALC:1 SELF ARRAY STRING:4", "['a','b']");
        due(THREE, "CALC:1 SELF ARRAY COMMA STRING:4 STRING:1", "['a']");
        due(THREE, "CALC:1 SELF ARRAY STRING:2", "['a','b','c']");
        due(THREE, "CALC:1 CALC:0 SELF SELF ARRAY STRING:0", "['b','c','b','c']");
        due(TWELVE, "CALC:1 SELF SELF", "[]");
        due("ARRAY COMMA NOTHING COMMA ARRAY SELF OBJECT:0 SELF", "CALC:1 SELF ARRAY ARRAY WORD:0", "[[],{a:null}]");
        due("ARRAY COMMA WORD:0 COMMA WORD:1 NUMBER:0", "CALC:1 SELF ARRAY WORD:0", "[false,0]");
        due("", "CALC:1 NUMBER:1000 NUMBER:1", "0.999");
    }

    private static void products() {
        dueOnPairs(2, "!1", "!1", "!1", "6.25", "!1", "!1", "!1");
        due("", "CALC:2 NUMBER:-1500 NUMBER:1500", "-2.25");
        due("", "CALC:2 NUMBER:0 NUMBER:-1500", "0");
        due("", "CALC:2 NUMBER:1 NUMBER:1", "0.000001");
        due("", "CALC:2 NUMBER:333333 NUMBER:3000", "999.999");
        due(GREATEST, "CALC:2 SELF NUMBER:1000", "999999999");
    }

    private static void rests() {
        dueOnPairs(3, "!1", "!1", "!1", "0", "!1", "!1", "!1");
        due("", "CALC:3 NUMBER:7000 NUMBER:3000", "1");
        due("", "CALC:3 NUMBER:-7000 NUMBER:3000", "-1");
        due("", "CALC:3 NUMBER:7000 NUMBER:-3000", "1");
        due("", "CALC:3 NUMBER:-7000 NUMBER:-3000", "-1");
        due("", "CALC:3 NUMBER:6000 NUMBER:3000", "0");
        due("", "CALC:3 NUMBER:2000 NUMBER:3000", "2");
        due("", "CALC:3 NUMBER:3000 NUMBER:3000", "0");
        due("", "CALC:3 NUMBER:7999 NUMBER:3999", "1");
        due("", "CALC:3 NUMBER:-7999 NUMBER:3999", "-1");
        due("", "CALC:3 NUMBER:999 NUMBER:1000", "0");
        due("", "CALC:3 NUMBER:-999 NUMBER:3000", "0");
        due("", "CALC:3 NUMBER:5000 NUMBER:1999", "0");
        due("", "CALC:3 NUMBER:5000 NUMBER:-1999", "0");
        due(GREATEST, "CALC:3 SELF NUMBER:1000000000", "999999");
        due(LEAST, "CALC:3 SELF NUMBER:1000000000", "-999999");
        due(LEAST, "CALC:3 SELF NUMBER:-1000", "0");
        due(GREATEST, "CALC:3 NUMBER:5000 SELF", "5");
    }

    private static void restsByZero() {
        for (String zero : new String[] {"NUMBER:0", "NUMBER:999", "NUMBER:-999", "NUMBER:1", MILLIONTH}) {
            due("", "CALC:3 NUMBER:7000 " + zero, "!2");
            due("", "CALC:3 NUMBER:0 " + zero, "!2");
        }
        due("", "CALC:3 NUMBER:7000 NUMBER:1000", "0");
        due("", "CALC:3 NUMBER:7000 NUMBER:-1000", "0");
        due("", "CALC:3 WORD:0 NUMBER:0", "!1");
        due("", "CALC:3 NUMBER:0 WORD:0", "!1");
    }

    private static void comparisons() {
        String[][] wants = {
            {"false", "true", "false"}, {"true", "false", "true"}, {"true", "false", "false"},
            {"true", "true", "false"}, {"false", "false", "true"}, {"false", "true", "true"}};
        String[][] rising = {
            {"NUMBER:999", "NUMBER:1000", "NUMBER:1001"}, {"WORD:0", "WORD:1", "WORD:2"},
            {"STRING:0", "STRING:2", "STRING:1"}, {"STRING:7", "NOTHING", "ARRAY WORD:0"},
            {"ARRAY NOTHING", "OBJECT:0 WORD:0", "OBJECT:0 WORD:1"}};
        for (int a = 0; a < 6; a++) {
            for (String[] three : rising) {
                for (int k = 0; k < 3; k++) {
                    due("", "COMPARE:" + a + " " + three[k] + " " + three[1], wants[a][k]);
                }
            }
        }
    }

    private static void both() {
        due("", "BOTH COMMA WORD:1 WORD:0 RAISE", "false false");
        Script.dueSteps("", "BOTH WORD:1 RAISE", 2);
        due("", "BOTH NUMBER:0 COMMA WORD:0 COMMA WORD:1 COMMA WORD:2 STRING:3", "false false true true");
        due("", "BOTH WORD:2 EMPTY", "");
        due("", "BOTH WORD:2 RAISE", "!null");
    }

    private static void either() {
        due("", "EITHER COMMA WORD:2 NUMBER:0 RAISE", "true true");
        Script.dueSteps("", "EITHER WORD:2 RAISE", 2);
        due("", "EITHER WORD:0 COMMA WORD:0 COMMA WORD:1 COMMA WORD:2 STRING:3", "false false true true");
        due("", "EITHER WORD:1 EMPTY", "");
        due("", "EITHER WORD:1 RAISE", "!null");
    }

    private static void not() {
        dueOnKinds("NOT", "true", "true", "false", "false", "false", "false", "false");
    }

    private static void choice() {
        due(THREE, "IF COMMA WORD:0 COMMA WORD:1 WORD:2 LENGTH EACH", "'a' 'b' 'c' 'a' 'b' 'c' 3");
        due("", "IF WORD:2 SELF RAISE", "null");
        due("", "IF WORD:1 RAISE SELF", "null");
        Script.dueSteps("", "IF WORD:2 SELF RAISE", 3);
        Script.dueSteps("", "IF EMPTY SELF SELF", 2);
    }

    private static void attempt() {
        due("", "TRY COMMA NUMBER:1000 PIPE STRING:0 RAISE COMMA SELF SELF", "1 'a' 'a'");
        due("", "TRY RAISE SELF", "null");
        due("", "TRY EACH SELF", "1");
        due("", "TRY CALC:3 NUMBER:0 NUMBER:0 SELF", "2");
        due("", "TRY COMMA NUMBER:1000 RAISE EMPTY", "1");
        due("", "TRY EMPTY RAISE", "");
        due("", "TRY NUMBER:1000 RAISE", "1");
        Script.dueSteps("", "TRY NUMBER:1000 RAISE", 2);
        due("", "TRY COMMA NUMBER:1000 PIPE STRING:0 RAISE COMMA SELF RAISE", "1 'a' !'a'");
        due("", "TRY TRY RAISE PIPE STRING:1 RAISE SELF", "'b'");
    }

    private static void alternative() {
        due("", "OR COMMA WORD:0 COMMA NUMBER:0 WORD:1 RAISE", "0");
        due("", "OR COMMA NUMBER:0 COMMA STRING:3 NOTHING RAISE", "0 '' []");
        Script.dueSteps("", "OR NUMBER:0 RAISE", 2);
        due("STRING:0", "OR EMPTY SELF", "'a'");
        due("STRING:0", "OR COMMA WORD:0 WORD:1 COMMA SELF WORD:1", "'a' false");
        due("STRING:0", "OR RAISE SELF", "'a'");
        due("STRING:0", "OR COMMA WORD:1 RAISE SELF", "'a'");
        due("STRING:0", "OR COMMA WORD:2 RAISE SELF", "true");
        due("STRING:0", "OR WORD:0 RAISE", "!'a'");
        due("STRING:0", "OR WORD:0 EMPTY", "");
    }

    private static void bind() {
        for (int a = 0; a < 4; a++) {
            due(THREE, "BIND:" + a + " EACH COMMA VARIABLE:" + a + " LENGTH", "'a' 3 'b' 3 'c' 3");
            due("", "COMMA BIND:" + a + " NUMBER:1000 VARIABLE:" + a + " VARIABLE:" + a, "1 null");
        }
        due("", "BIND:0 NUMBER:1000 COMMA BIND:0 NUMBER:2000 VARIABLE:0 VARIABLE:0", "2 1");
        due("", "BIND:0 NUMBER:1000 BIND:3 VARIABLE:0 COMMA VARIABLE:3 VARIABLE:1", "1 null");
        due("", "BIND:0 NUMBER:1000 BIND:0 CALC:0 VARIABLE:0 NUMBER:1000 VARIABLE:0", "2");
        due("", "TRY BIND:0 NUMBER:1000 RAISE VARIABLE:0", "null");
        due("", "OR BIND:0 NUMBER:1000 RAISE COMMA VARIABLE:0 NUMBER:2000", "null 2");
    }

    private static void reduceFromFirst() {
        due(THREE, "REDUCE:0 EACH COMMA STRING:7 STRING:3 LENGTH", "12");
        due(THREE, "REDUCE:0 EMPTY COMMA STRING:0 STRING:1 RAISE", "'a'");
        due(THREE, "REDUCE:0 EMPTY STRING:0 RAISE", "'a'");
        due(THREE, "REDUCE:0 EMPTY EMPTY RAISE", "null");
        due(THREE, "REDUCE:0 EACH EMPTY CALC:0 SELF VARIABLE:0", "'abc'");
    }

    private static void reduceToLast() {
        due(THREE, "REDUCE:0 EACH STRING:3 COMMA RANGE NUMBER:15000 CALC:0 SELF VARIABLE:0", "'abc'");
        due(THREE, "REDUCE:0 NUMBER:0 STRING:3 COMMA STRING:0 STRING:1", "'b'");
        due(THREE, "REDUCE:0 NUMBER:0 STRING:3 EMPTY", "null");
        due(THREE, "REDUCE:0 EACH STRING:3 EMPTY", "null");
        due(THREE, "REDUCE:0 EACH WORD:0 IF COMPARE:0 VARIABLE:0 STRING:1 EMPTY CALC:0 SELF VARIABLE:0", "'c'");
    }

    private static void reduceVariables() {
        for (int a = 0; a < 4; a++) {
            String of = " VARIABLE:" + a;
            due(THREE, "REDUCE:" + a + " EACH STRING:3 CALC:0 SELF" + of, "'abc'");
            due("", "BIND:" + a + " STRING:0 COMMA REDUCE:" + a + " NUMBER:1000 SELF" + of + of, "1 'a'");
            due("", "BIND:" + a + " STRING:0 REDUCE:" + a + of + of + " CALC:0 SELF" + of, "'aa'");
            due("", "TRY REDUCE:" + a + " NUMBER:1000 SELF RAISE" + of, "null");
        }
    }

    private static void reduceErrors() {
        due(THREE, "COMMA NUMBER:1000 REDUCE:0 EACH RAISE SELF", "1 !['a','b','c']");
        due(THREE, "REDUCE:0 EACH COMMA NUMBER:0 RAISE SELF", "!['a','b','c']");
        due(THREE, "REDUCE:0 EMPTY COMMA NUMBER:0 RAISE SELF", "!['a','b','c']");
        due(THREE, "REDUCE:0 COMMA EACH RAISE NUMBER:0 SELF", "!['a','b','c']");
        due(THREE, "REDUCE:0 RAISE NUMBER:0 SELF", "!['a','b','c']");
        due(THREE, "REDUCE:0 EACH NUMBER:0 RAISE", "!0");
        due(THREE, "REDUCE:0 EACH NUMBER:0 COMMA SELF RAISE", "!0");
        due(THREE, "REDUCE:0 EACH NUMBER:0 PIPE VARIABLE:0 RAISE", "!'a'");
        due(THREE, "REDUCE:0 COMMA EACH RAISE NUMBER:0 RAISE", "!0");
    }

    private static void length() {
        dueOnKinds("LENGTH", "0", "!1", "!1", "2.5", "2", "1", "1");
        due("NUMBER:-2500", "LENGTH", "2.5");
        due("NUMBER:0", "LENGTH", "0");
        due(LEAST, "LENGTH", "999999999");
        due("STRING:3", "LENGTH", "0");
        due("STRING:7", "LENGTH", "12");
        due("NOTHING", "LENGTH", "0");
        due(TWELVE, "LENGTH", "12");
        due(SIX_MEMBERS, "LENGTH", "6");
        due("ARRAY ARRAY RANGE NUMBER:5000", "LENGTH", "1");
    }

    private static void keys() {
        dueOnKinds("KEYS", "!1", "!1", "!1", "!1", "!1", "[0]", "['a']");
        due("NOTHING", "KEYS", "[]");
        due(THREE, "KEYS", "[0,1,2]");
        due(TWELVE + ";SORT", "KEYS", "[0,1,2,3,4,5,6,7,8,9,10,11]");
        due(SIX_MEMBERS, "KEYS", "['a','ab','b','c','d','e']");
        due("CALC:0 OBJECT:7 SELF OBJECT:3 SELF", "KEYS", "['','twelve chars']");
    }

    private static void emptyAndRaise() {
        dueOnKinds("EMPTY", "", "", "", "", "", "", "");
        String[] faults = new String[SHOWN.length];
        for (int k = 0; k < faults.length; k++) {
            faults[k] = "!" + SHOWN[k];
        }
        dueOnKinds("RAISE", faults);
    }

    private static void sort() {
        dueOnKinds("SORT", "!1", "!1", "!1", "!1", "!1", "[1]", "!1");
        due("NOTHING", "SORT", "[]");
        due("ARRAY COMMA NUMBER:2000 NUMBER:1000", "SORT", "[1,2]");
        due("ARRAY COMMA NUMBER:1000 NUMBER:2000", "SORT", "[1,2]");
        due("ARRAY COMMA NUMBER:2000 COMMA NUMBER:1000 COMMA NUMBER:2000 NUMBER:1000", "SORT", "[1,1,2,2]");
        due("ARRAY BIND:0 RANGE NUMBER:12000 CALC:1 NUMBER:11000 VARIABLE:0", "COMMA SELF SORT",
                "[11,10,9,8,7,6,5,4,3,2,1,0] [0,1,2,3,4,5,6,7,8,9,10,11]");
        due("ARRAY COMMA OBJECT:0 SELF COMMA NOTHING COMMA STRING:3 COMMA NUMBER:0 COMMA WORD:2 COMMA WORD:1 SELF", "SORT",
                "[null,false,true,0,'',[],{a:null}]");
    }

    private static void sum() {
        dueOnKinds("SUM", "!1", "!1", "!1", "!1", "!1", "1", "!1");
        due("NOTHING", "SUM", "null");
        due("ARRAY SELF", "SUM", "null");
        due("ARRAY WORD:1", "SUM", "false");
        due("ARRAY COMMA WORD:0 COMMA WORD:2 WORD:0", "SUM", "true");
        due("ARRAY COMMA WORD:1 WORD:1", "SUM", "!1");
        due("ARRAY COMMA NUMBER:1000 STRING:0", "SUM", "!1");
        due(TWELVE, "SUM", "66");
        due(THREE, "SUM", "'abc'");
        due("ARRAY COMMA ARRAY STRING:0 NOTHING", "SUM", "['a']");
        due("ARRAY COMMA OBJECT:0 WORD:1 COMMA OBJECT:1 WORD:1 OBJECT:0 WORD:2", "SUM", "{a:true,b:false}");
        // One by one: too much on the way is too much.
        due(GREATEST + ";ARRAY COMMA SELF COMMA NUMBER:-1000 NUMBER:1000", "SUM", "999999999");
        due(GREATEST + ";ARRAY COMMA SELF COMMA NUMBER:1000 NUMBER:-1000", "SUM", "no room");
        due("ARRAY COMMA STRING:7 COMMA STRING:3 SELF", "SUM", "'twelve chars'");
        due("ARRAY COMMA STRING:7 COMMA STRING:0 NUMBER:0", "SUM", "no room");
        due("ARRAY COMMA STRING:7 COMMA NUMBER:0 STRING:0", "SUM", "!1");
    }

    private static void range() {
        dueOnKinds("RANGE SELF", "!1", "!1", "!1", "0 1 2", "!1", "!1", "!1");
        due("", "RANGE NUMBER:-1000", "");
        due("", "RANGE NUMBER:-1", "");
        due("", "RANGE NUMBER:0", "");
        due("", "RANGE NUMBER:1", "0");
        due("", "RANGE " + MILLIONTH, "0");
        due("", "RANGE NUMBER:1000", "0");
        due("", "RANGE NUMBER:1001", "0 1");
        due("", "RANGE NUMBER:1999", "0 1");
        due("", "RANGE NUMBER:15001", "0 1 2 3 4 5 6 7 8 9 10 11 12 13 14 15");
        due("", "RANGE NUMBER:16001", "no room");
        due(LEAST, "RANGE SELF", "");
        due(GREATEST, "RANGE SELF", "no room");
    }

    private static void all() {
        dueOnKinds("ALL", "null", "false", "true", "2.5", "'ab'", "[1] 1", "{a:1} 1");
        due("NOTHING", "ALL", "[]");
        due("ARRAY COMMA ARRAY COMMA NUMBER:1000 NOTHING STRING:0", "ALL", "[[1,[]],'a'] [1,[]] 1 [] 'a'");
        due("CALC:0 OBJECT:1 ARRAY STRING:0 OBJECT:0 OBJECT:2 WORD:1", "ALL",
                "{a:{ab:false},b:['a']} {ab:false} false ['a'] 'a'");
        due("ARRAY ARRAY ARRAY ARRAY ARRAY SELF", "ALL", "[[[[[null]]]]] [[[[null]]]] [[[null]]] [[null]] [null] null");
    }

    private static void limit() {
        for (int a = 1; a < 10; a++) {
            StringBuilder first = new StringBuilder("0");
            for (int k = 1; k < a; k++) {
                first.append(' ').append(k);
            }
            due("", "LIMIT:" + a + " RANGE NUMBER:" + 1000 * a, first.toString());
            due("", "LIMIT:" + a + " RANGE NUMBER:" + 1000 * (a + 1), first.toString());
            due("", "LIMIT:" + a + " RANGE NUMBER:16000", first.toString());
            due("", "LIMIT:9 RANGE NUMBER:" + 1000 * a, first.toString());
        }
        due("", "LIMIT:1 EMPTY", "");
        due("", "LIMIT:0 RANGE NUMBER:16000", "");
    }

    private static void limitAndErrors() {
        due("", "LIMIT:3 COMMA RANGE NUMBER:2000 RAISE", "0 1 !null");
        due("", "LIMIT:2 COMMA RANGE NUMBER:2000 RAISE", "0 1");
        due("", "LIMIT:1 COMMA RANGE NUMBER:2000 RAISE", "0");
        due("", "LIMIT:1 RAISE", "!null");
        due("", "LIMIT:9 COMMA RANGE NUMBER:8000 RAISE", "0 1 2 3 4 5 6 7 !null");
        due("", "LIMIT:9 COMMA RANGE NUMBER:9000 RAISE", "0 1 2 3 4 5 6 7 8");
    }

    private static void limitOfNone() {
        due("", "LIMIT:0 RAISE", "");
        due("", "LIMIT:0 RANGE NUMBER:17000", "");
        due("", "LIMIT:0 NUMBER:1000000001", "");
        Script.dueSteps("", "LIMIT:0 SELF", 1);
        Script.dueSteps("", "LIMIT:1 SELF", 2);
    }

    private static void hasItem() {
        due(THREE, "HAS COMMA NUMBER:0 COMMA NUMBER:1 COMMA NUMBER:2000 COMMA NUMBER:2999 NUMBER:3000",
                "true true true true false");
        due(THREE, "HAS COMMA NUMBER:-1 COMMA NUMBER:-1000 NUMBER:-3000", "false false false");
        due(THREE, "HAS COMMA " + MILLIONTH + " CALC:1 NUMBER:0 " + MILLIONTH, "true false");
        due(THREE, "HAS COMMA " + GREATEST + " CALC:1 NUMBER:0 " + GREATEST, "false false");
        due("NOTHING", "HAS COMMA NUMBER:0 NUMBER:-1000", "false false");
        due(TWELVE, "HAS COMMA NUMBER:11999 NUMBER:12000", "true false");
        due("ARRAY WORD:0", "HAS NUMBER:0", "true");
    }

    private static void hasName() {
        due(AB, "HAS COMMA STRING:0 COMMA STRING:1 COMMA STRING:2 STRING:3", "true true false false");
        due("OBJECT:3 WORD:0", "HAS COMMA STRING:3 STRING:0", "true false");
        due("OBJECT:7 WORD:1", "HAS COMMA STRING:7 STRING:3", "true false");
        due(SIX_MEMBERS, "HAS COMMA STRING:0 COMMA STRING:6 STRING:7", "true true false");
    }

    private static void hasOfOthers() {
        for (int v = 0; v < KINDS.length; v++) {
            for (int i = 0; i < KINDS.length; i++) {
                String want = v == 5 && i == 3 || v == 6 && i == 4 ? "false" : "!1";
                due(KINDS[v], "HAS " + KINDS[i], want);
            }
        }
    }

    private static void select() {
        due(THREE, "SELECT COMMA WORD:0 COMMA WORD:1 EMPTY", "");
        due(THREE, "SELECT COMMA WORD:2 NUMBER:0", "['a','b','c'] ['a','b','c']");
        due("WORD:1", "SELECT WORD:2", "false");
        due("WORD:1", "SELECT SELF", "");
    }

    private static void floor() {
        dueOnKinds("FLOOR", "!1", "!1", "!1", "2", "!1", "!1", "!1");
        due("NUMBER:0", "FLOOR", "0");
        due("NUMBER:999", "FLOOR", "0");
        due("NUMBER:1000", "FLOOR", "1");
        due("NUMBER:1001", "FLOOR", "1");
        due("NUMBER:-1", "FLOOR", "-1");
        due("NUMBER:-1000", "FLOOR", "-1");
        due("NUMBER:-1001", "FLOOR", "-2");
        due(MILLIONTH, "FLOOR", "0");
        due(MILLIONTH + ";CALC:1 NUMBER:0 SELF", "FLOOR", "-1");
        due("NUMBER:999999999", "FLOOR", "999999");
        String[] places = {"NUMBER:900", "NUMBER:990", "NUMBER:999", "CALC:2 NUMBER:9999000 CALC:2 NUMBER:100 NUMBER:1",
            "CALC:2 NUMBER:99999000 CALC:2 NUMBER:10 NUMBER:1", "CALC:2 NUMBER:999999000 " + MILLIONTH};
        for (String less : places) {
            due("CALC:0 NUMBER:100000 " + less, "COMMA FLOOR CALC:3 SELF NUMBER:7000", "100 2");
            due("CALC:1 NUMBER:-100000 " + less, "COMMA FLOOR CALC:3 SELF NUMBER:7000", "-101 -2");
            due("CALC:0 NUMBER:100000 " + less, "CALC:3 NUMBER:205000 SELF", "5");
        }
        due("NUMBER:-999999999", "FLOOR", "-1000000");
        due(GREATEST, "FLOOR", "999999999");
        due(LEAST, "FLOOR", "-999999999");
    }

    private static void test(String words, Checks.Test test) {
        Checks.sentence("Promise 5 run", words, test);
    }

    private static void rowsOfOne() {
        test("0 SELF: v.", TokensBoundariesTest::self);
        test("1 FIELD a: of NULL NULL; of an OBJECT the value of the member with the STRING a as its name, or NULL; else "
                + "ERROR 1.", TokensBoundariesTest::field);
        test("the member with the STRING a as its name", TokensBoundariesTest::fieldReadsTheString);
        test("v is NULL: NULL", TokensBoundariesTest::indexOfNull);
        test("v an ARRAY and i a NUMBER: item k (from 0) or NULL, k being i rounded down, with the length added if it is "
                + "below 0", TokensBoundariesTest::indexOfArrays);
        test("v an OBJECT and i a TEXT: as FIELD", TokensBoundariesTest::indexOfObjects);
        test("as FIELD; else ERROR 1.", TokensBoundariesTest::indexOfOthers);
        test("3 EACH: the items of an ARRAY, the members' values of an OBJECT, in order; else ERROR 1.",
                TokensBoundariesTest::each);
        test("4 PIPE E F: FOR EACH x of E on v: F on x.", TokensBoundariesTest::pipe);
        test("5 COMMA E F: E on v, then F on v (not if E ended by an ERROR).", TokensBoundariesTest::comma);
        test("8 WORD: NULL, FALSE, TRUE for a 0, 1, 2.", TokensBoundariesTest::literals);
        test("7 STRING: the STRING a.", TokensBoundariesTest::strings);
        test("9 ARRAY E: the ARRAY of E's row on v (its ERROR alone, if it has one).", TokensBoundariesTest::array);
        test("11 OBJECT E: FOR EACH x of E on v: the OBJECT with the STRING a as its one name, and x.",
                TokensBoundariesTest::object);
    }

    private static void calculations() {
        test("12 CALC E F: FOR EACH y of F on v, FOR EACH x of E on v (worked out anew for each y)",
                TokensBoundariesTest::pairs);
        test("a 0: x + y: NULL and anything: that; NUMBERS; TEXTS and ARRAYS: y behind x", TokensBoundariesTest::sums);
        test("OBJECTS: all members, y's for a name of both.", TokensBoundariesTest::sumsOfObjects);
        test("a 1: x - y: NUMBERS; ARRAYS: the items of x that are ALIKE none of y.",
                TokensBoundariesTest::differences);
        test("a 2: x * y, exactly: NUMBERS.", TokensBoundariesTest::products);
        test("a 3: the rest of x / y, both rounded toward zero first to whole numbers", TokensBoundariesTest::rests);
        test("(y 0 then: ERROR 2), with the sign of x: NUMBERS. Other kinds: ERROR 1.",
                TokensBoundariesTest::restsByZero);
        test("by the ORDER x is (a) 0 ALIKE, 1 not, 2 before, 3 before or ALIKE, 4 behind, 5 behind or ALIKE y.",
                TokensBoundariesTest::comparisons);
    }

    private static void choices() {
        test("14 BOTH E F: FOR EACH x of E on v: FALSE if it is not GOOD; else FOR EACH y of F on v: TRUE if it is GOOD, "
                + "else FALSE.", TokensBoundariesTest::both);
        test("15 EITHER E F: likewise: TRUE if x is GOOD, else by y.", TokensBoundariesTest::either);
        test("16 NOT: whether v is not GOOD.", TokensBoundariesTest::not);
        test("17 IF E F G: FOR EACH x of E on v: F on v if it is GOOD, else G on v.", TokensBoundariesTest::choice);
        test("18 TRY E F: E's row on v; if an ERROR with a value x ended it, F's row on x follows instead of the ERROR.",
                TokensBoundariesTest::attempt);
        test("19 OR E F: the GOOD values of E's row on v, its ERROR dropped; if there are none, F on v.",
                TokensBoundariesTest::alternative);
        test("20 BIND E F: FOR EACH x of E on v: F on v, with VARIABLE a being x.", TokensBoundariesTest::bind);
        test("22 REDUCE E F G: with the first value of F's row on v (NULL if it has none) as z",
                TokensBoundariesTest::reduceFromFirst);
        test("z becomes the last value of G's row on z", TokensBoundariesTest::reduceToLast);
        test("with VARIABLE a being x (NULL if it has none); z.", TokensBoundariesTest::reduceVariables);
        test("(An ERROR of F, E or G is that of all, no value before it.)", TokensBoundariesTest::reduceErrors);
    }

    private static void measures() {
        test("23 LENGTH: NULL 0; a NUMBER without its sign; characters, items, members; FALSE, TRUE: ERROR 1.",
                TokensBoundariesTest::length);
        test("24 KEYS: the names of an OBJECT as an ARRAY, the numbers from 0 of an ARRAY's items likewise; else ERROR 1.",
                TokensBoundariesTest::keys);
        test("25 EMPTY: no value. 26 RAISE: ERROR with the value v.", TokensBoundariesTest::emptyAndRaise);
        test("27 SORT: an ARRAY's items by ORDER, ALIKE ones as they were; else ERROR 1.", TokensBoundariesTest::sort);
        test("28 SUM: the items of an ARRAY added (as CALC 0) to NULL one by one; else ERROR 1.",
                TokensBoundariesTest::sum);
        test("29 RANGE E: FOR EACH n of E on v: a NUMBER: 0, 1, .. as long as they are below it; else ERROR 1.",
                TokensBoundariesTest::range);
        test("30 ALL: v, then ALL of each of its items or members' values, in order.", TokensBoundariesTest::all);
        test("31 LIMIT E: the first a values of E's row on v, a 0 .. 9", TokensBoundariesTest::limit);
        test("(its ERROR only if it has not so many", TokensBoundariesTest::limitAndErrors);
        test("with 0 E is not worked out)", TokensBoundariesTest::limitOfNone);
        test("an ARRAY that item (a NUMBER; 0 or more, and rounded down below the length)",
                TokensBoundariesTest::hasItem);
        test("32 HAS E: FOR EACH i of E on v: whether an OBJECT has that name (a TEXT)", TokensBoundariesTest::hasName);
        test("and rounded down below the length); else ERROR 1.", TokensBoundariesTest::hasOfOthers);
        test("33 SELECT E: FOR EACH x of E on v: v if x is GOOD, else nothing.", TokensBoundariesTest::select);
        test("34 FLOOR: a NUMBER rounded down; else ERROR 1.", TokensBoundariesTest::floor);
    }

    public static void main(String[] args) {
        rowsOfOne();
        calculations();
        choices();
        measures();
        Checks.end();
    }
}
