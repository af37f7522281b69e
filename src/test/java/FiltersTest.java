/** Every token, by the section Terms: what comes of a filter on a value. */
public final class FiltersTest {
    private static final String NUMBERS = "ARRAY COMMA NUMBER:3000 COMMA NUMBER:1500 NUMBER:-2000";
    private static final String AB = "CALC:0 OBJECT:0 NUMBER:1000 OBJECT:1 STRING:4";
    private static final String TWELVE = "ARRAY RANGE NUMBER:12000";
    private static final String MIXED = "ARRAY COMMA WORD:0 COMMA WORD:1 COMMA WORD:2 COMMA NUMBER:0 STRING:3";

    private static void due(String value, String filter, String want) {
        Script.due(value, filter, want);
    }

    private static void dueSteps(String value, String filter, int want) {
        Script.dueSteps(value, filter, want);
    }

    private static void plainTokens() {
        due("", "SELF", "null");
        due(AB, "SELF", "{a:1,b:'c'}");
        due("", "NUMBER:1500", "1.5");
        due("", "NUMBER:-1", "-0.001");
        due("", "NUMBER:0", "0");
        due("", "NUMBER:999999999", "999999.999");
        due("", "NUMBER:1000000000", "1000000");
        due("", "NUMBER:1000000001", "no room");
        due("", "NUMBER:-1000000001", "no room");
        due("", "NUMBER:2147483647", "no room");
        due("", "NUMBER:-2147483648", "no room");
        due("", "NUMBER:2147483000", "2147483");
        due("", "STRING:7", "'twelve chars'");
        due("", "STRING:3", "''");
        due("", "COMMA WORD:0 COMMA WORD:1 WORD:2", "null false true");
        due("", "NOTHING", "[]");
        due("", "EMPTY", "");
        due(AB, "RAISE", "!{a:1,b:'c'}");
        due("", "RAISE", "!null");
        due("", "VARIABLE:3", "null");
        due(MIXED, "ARRAY PIPE EACH NOT", "[true,true,false,false,false]");
        due("", "NOT", "true");
    }

    private static void fieldsAndIndexes() {
        due("", "FIELD:0", "null");
        due(AB, "FIELD:0", "1");
        due(AB, "FIELD:1", "'c'");
        due(AB, "FIELD:2", "null");
        due("OBJECT:3 WORD:2", "FIELD:3", "true");
        due(NUMBERS, "FIELD:0", "!1");
        due("WORD:1", "FIELD:0", "!1");
        due("STRING:0", "FIELD:0", "!1");
        due(NUMBERS, "INDEX COMMA NUMBER:0 COMMA NUMBER:1999 COMMA NUMBER:2000 NUMBER:3000", "3 1.5 -2 null");
        due(NUMBERS, "INDEX COMMA NUMBER:-1 COMMA NUMBER:-2001 COMMA NUMBER:-3000 NUMBER:-3001", "-2 3 3 null");
        due(NUMBERS, "INDEX NUMBER:-500", "-2");
        due(NUMBERS, "INDEX COMMA NUMBER:0 STRING:0", "3 !1");
        due("", "INDEX COMMA NUMBER:0 COMMA STRING:0 WORD:2", "null null null");
        due("", "INDEX EMPTY", "");
        due(AB, "INDEX COMMA STRING:1 STRING:4", "'c' null");
        due(AB, "INDEX NUMBER:0", "!1");
        due("NUMBER:0", "INDEX NUMBER:0", "!1");
        due("NUMBER:0", "INDEX RAISE", "!0");
        due("STRING:0", "INDEX NUMBER:0", "!1");
        due(NUMBERS, "INDEX COMMA NUMBER:1000 RAISE", "1.5 ![3,1.5,-2]");
        due(NUMBERS, "EACH", "3 1.5 -2");
        due(AB, "EACH", "1 'c'");
        due("NOTHING", "EACH", "");
        due("", "EACH", "!1");
        due("STRING:0", "EACH", "!1");
        due(NUMBERS, "HAS COMMA NUMBER:0 COMMA NUMBER:2999 COMMA NUMBER:3000 NUMBER:-1", "true true false false");
        due(AB, "HAS COMMA STRING:0 STRING:4", "true false");
        due(AB, "HAS NUMBER:0", "!1");
        due(NUMBERS, "HAS STRING:0", "!1");
        due("", "HAS STRING:0", "!1");
        due("OBJECT:0 WORD:0", "HAS STRING:0", "true");
    }

    private static void joins() {
        due(NUMBERS, "PIPE EACH LENGTH", "3 1.5 2");
        due(NUMBERS, "PIPE COMMA EACH RAISE LENGTH", "3 1.5 2 ![3,1.5,-2]");
        due(MIXED, "PIPE EACH LENGTH", "0 !1");
        due("", "PIPE COMMA NUMBER:1000 RAISE PIPE COMMA SELF STRING:0 RAISE", "!1");
        due("", "COMMA NUMBER:1000 COMMA RAISE NUMBER:2000", "1 !null");
        dueSteps("", "COMMA RAISE NUMBER:2000", 2);
        due(NUMBERS, "ARRAY EACH", "[3,1.5,-2]");
        due(NUMBERS, "ARRAY EMPTY", "[]");
        due(NUMBERS, "ARRAY COMMA EACH RAISE", "![3,1.5,-2]");
        due("", "ARRAY COMMA RANGE NUMBER:13000 RAISE", "!null");
        due(NUMBERS, "OBJECT:2 EACH", "{ab:3} {ab:1.5} {ab:-2}");
        due("", "OBJECT:3 COMMA SELF RAISE", "{:null} !null");
        due("", "RANGE COMMA NUMBER:2000 COMMA NUMBER:-1000 COMMA NUMBER:0 NUMBER:1001", "0 1 0 1");
        due("", "RANGE COMMA NUMBER:1 WORD:0", "0 !1");
        due("", "RANGE NUMBER:16000", "0 1 2 3 4 5 6 7 8 9 10 11 12 13 14 15");
        due("", "RANGE NUMBER:16001", "no room");
        due("", "RANGE NUMBER:999999000", "no room");
        due(NUMBERS, "SELECT EACH", "[3,1.5,-2] [3,1.5,-2] [3,1.5,-2]");
        due("", "SELECT COMMA WORD:1 COMMA WORD:0 NUMBER:0", "null");
        due("", "SELECT COMMA WORD:2 RAISE", "null !null");
    }

    private static void calculations() {
        due("", "CALC:0 COMMA NUMBER:1000 NUMBER:2000 COMMA NUMBER:10000 NUMBER:20000", "11 12 21 22");
        due("", "CALC:0 COMMA NUMBER:1000 RAISE COMMA NUMBER:1000 NUMBER:2000", "2 !null");
        due("", "CALC:0 COMMA NUMBER:1000 NUMBER:5000 COMMA NUMBER:1000 RAISE", "2 6 !null");
        due("", "CALC:0 COMMA NUMBER:1000 STRING:0 COMMA NUMBER:1000 RAISE", "2 !1");
        dueSteps("", "CALC:0 COMMA NUMBER:1000 NUMBER:2000 COMMA NUMBER:10000 NUMBER:20000", 10);
        dueSteps("", "CALC:0 COMMA NUMBER:1000 NUMBER:2000 EMPTY", 2);
        due("", "CALC:0 SELF SELF", "null");
        due("", "CALC:0 SELF WORD:1", "false");
        due("", "CALC:0 NUMBER:1 SELF", "0.001");
        due("", "CALC:0 WORD:1 WORD:1", "!1");
        due("", "CALC:0 WORD:2 NUMBER:0", "!1");
        due("", "CALC:0 NUMBER:500 NUMBER:1500", "2");
        due("", "CALC:0 STRING:2 STRING:4", "'abc'");
        due("", "CALC:0 STRING:7 STRING:3", "'twelve chars'");
        due("", "CALC:0 STRING:7 STRING:0", "no room");
        due(NUMBERS, "CALC:0 SELF ARRAY STRING:0", "[3,1.5,-2,'a']");
        due(NUMBERS, "CALC:0 SELF NOTHING", "[3,1.5,-2]");
        due(TWELVE, "CALC:0 SELF ARRAY WORD:0", "no room");
        due(AB, "CALC:0 SELF OBJECT:1 WORD:2", "{a:1,b:true}");
        due(AB, "CALC:0 OBJECT:1 WORD:2 SELF", "{a:1,b:'c'}");
        due(AB, "CALC:0 OBJECT:2 WORD:0 SELF", "{a:1,ab:null,b:'c'}");
        due(AB, "CALC:0 SELF OBJECT:3 WORD:0", "{:null,a:1,b:'c'}");
        due(AB, "CALC:0 SELF NOTHING", "!1");
        due("CALC:0 CALC:0 OBJECT:0 SELF CALC:0 OBJECT:1 SELF OBJECT:2 SELF CALC:0 OBJECT:4 SELF OBJECT:5 SELF",
                "CALC:0 SELF OBJECT:6 WORD:0", "{a:null,ab:null,b:null,c:null,d:null,e:null}");
        due("CALC:0 CALC:0 OBJECT:0 SELF CALC:0 OBJECT:1 SELF OBJECT:2 SELF CALC:0 OBJECT:4 SELF OBJECT:5 SELF",
                "CALC:0 SELF CALC:0 OBJECT:6 WORD:0 OBJECT:7 WORD:0", "no room");
        due("", "CALC:1 NUMBER:1000 NUMBER:1", "0.999");
        due("ARRAY COMMA NUMBER:1000 COMMA STRING:0 COMMA WORD:0 NUMBER:1000",
                "CALC:1 SELF ARRAY COMMA NUMBER:1000 STRING:1", "['a',null]");
        due(NUMBERS, "CALC:1 SELF ARRAY NUMBER:1500", "[3,-2]");
        due("", "CALC:1 NOTHING NOTHING", "[]");
        due("", "CALC:1 NOTHING NUMBER:0", "!1");
        due("", "CALC:1 NUMBER:0 NOTHING", "!1");
        due("", "CALC:1 STRING:2 STRING:0", "!1");
        due("", "CALC:1 SELF NUMBER:0", "!1");
        due("", "CALC:1 NUMBER:0 SELF", "!1");
        due("", "CALC:2 NUMBER:1500 NUMBER:-1500", "-2.25");
        due("", "CALC:2 NUMBER:1 NUMBER:1", "0.000001");
        due("", "CALC:2 NUMBER:1 CALC:2 NUMBER:1 NUMBER:1", "no room");
        due("", "CALC:2 NUMBER:1 CALC:2 NUMBER:1 NUMBER:1000000", "0.001");
        due("", "CALC:2 NUMBER:999999000 NUMBER:1000000", "999999000");
        due("", "CALC:2 NUMBER:1000000000 NUMBER:1000000", "no room");
        due("", "CALC:2 NUMBER:-999999000 NUMBER:1000000", "-999999000");
        due("", "CALC:2 NUMBER:0 CALC:2 NUMBER:1 NUMBER:1", "0");
        due("", "CALC:2 STRING:0 NUMBER:1", "!1");
        due("", "CALC:3 NUMBER:7900 NUMBER:-3900", "1");
        due("", "CALC:3 NUMBER:-7900 NUMBER:3000", "-1");
        due("", "CALC:3 NUMBER:-900 NUMBER:3000", "0");
        due("", "CALC:3 NUMBER:7000 NUMBER:-999", "!2");
        due("", "CALC:3 NUMBER:7000 SELF", "!1");
        due("", "CALC:3 SELF NUMBER:0", "!1");
        due("", "CALC:0 CALC:2 NUMBER:999999000 NUMBER:1000000 NUMBER:999000", "999999999");
        due("", "CALC:0 CALC:2 NUMBER:999999000 NUMBER:1000000 NUMBER:1000000", "no room");
        due("", "CALC:1 CALC:2 NUMBER:-999999000 NUMBER:1000000 NUMBER:999000", "-999999999");
        due("", "CALC:1 CALC:2 NUMBER:-999999000 NUMBER:1000000 NUMBER:1000000", "no room");
        due("", "CALC:0 NUMBER:999999000 CALC:2 NUMBER:1 NUMBER:1", "no room");
        due("", "CALC:0 NUMBER:999000 CALC:2 NUMBER:1 NUMBER:1", "999.000001");
    }

    private static void comparisons() {
        String pair = " COMMA NUMBER:1000 COMMA NUMBER:2000 NUMBER:3000 NUMBER:2000";
        due("", "COMPARE:0" + pair, "false true false");
        due("", "COMPARE:1" + pair, "true false true");
        due("", "COMPARE:2" + pair, "true false false");
        due("", "COMPARE:3" + pair, "true true false");
        due("", "COMPARE:4" + pair, "false false true");
        due("", "COMPARE:5" + pair, "false true true");
        due("", "COMPARE:2 COMMA NUMBER:1000 NUMBER:2000 COMMA NUMBER:2000 NUMBER:1000", "true false false false");
        due("", "COMPARE:2 COMMA NUMBER:1000 RAISE COMMA NUMBER:2000 NUMBER:1000", "true !null");
        due("", "COMPARE:2 NUMBER:-1001 NUMBER:-1000", "true");
        due("", "COMPARE:2 NUMBER:2000 NUMBER:10001", "true");
        due("", "COMPARE:2 WORD:1 WORD:2", "true");
        due("", "COMPARE:2 WORD:2 NUMBER:-1000", "true");
        due("", "COMPARE:2 NUMBER:1000 STRING:3", "true");
        due("", "COMPARE:2 STRING:0 STRING:2", "true");
        due("", "COMPARE:2 STRING:2 STRING:1", "true");
        due("", "COMPARE:2 STRING:1 NOTHING", "true");
        due("", "COMPARE:2 NOTHING ARRAY WORD:0", "true");
        due("", "COMPARE:2 ARRAY COMMA WORD:1 STRING:0 ARRAY WORD:2", "true");
        due("", "COMPARE:2 ARRAY STRING:0 OBJECT:0 WORD:0", "true");
        due("", "COMPARE:2 OBJECT:0 WORD:2 OBJECT:1 WORD:0", "true");
        due("", "COMPARE:2 OBJECT:0 WORD:2 CALC:0 OBJECT:0 WORD:0 OBJECT:1 WORD:0", "true");
        due("", "COMPARE:2 CALC:0 OBJECT:0 WORD:2 OBJECT:1 WORD:0 OBJECT:1 WORD:0", "true");
        due("", "COMPARE:2 CALC:0 OBJECT:0 WORD:0 OBJECT:1 WORD:2 CALC:0 OBJECT:0 WORD:2 OBJECT:1 WORD:0", "true");
        due(AB, "COMPARE:0 SELF CALC:0 OBJECT:1 STRING:4 OBJECT:0 NUMBER:1000", "true");
        due("", "BOTH COMMA WORD:0 COMMA WORD:1 NUMBER:0 COMMA STRING:3 WORD:1", "false false true false");
        due("", "EITHER COMMA WORD:0 COMMA WORD:1 NUMBER:0 COMMA STRING:3 WORD:1", "true false true false true");
        due("", "BOTH WORD:1 RAISE", "false");
        due("", "EITHER WORD:2 RAISE", "true");
        due("", "BOTH COMMA WORD:2 WORD:1 COMMA WORD:2 RAISE", "true !null");
        due("", "EITHER COMMA WORD:2 COMMA WORD:0 WORD:2 RAISE", "true !null");
        due("", "BOTH COMMA WORD:1 RAISE WORD:2", "false !null");
        dueSteps("", "BOTH COMMA WORD:2 WORD:2 WORD:2", 6);
        dueSteps("", "EITHER WORD:2 WORD:2", 2);
    }

    private static void choices() {
        due("STRING:0", "IF COMMA WORD:2 COMMA WORD:0 NUMBER:0 COMMA SELF SELF STRING:1", "'a' 'a' 'b' 'a' 'a'");
        due("STRING:0", "IF COMMA WORD:1 RAISE EACH SELF", "'a' !'a'");
        due("STRING:0", "IF COMMA WORD:2 RAISE EACH SELF", "!1");
        due("", "IF EMPTY RAISE RAISE", "");
        due(MIXED, "PIPE EACH IF COMMA SELF SELF ARRAY COMMA SELF SELF NOT", "true true true true [true,true] [true,true] "
                + "[0,0] [0,0] ['',''] ['','']");
        due("", "PIPE RANGE NUMBER:2000 OR EMPTY ARRAY COMMA SELF SELF", "[0,0] [1,1]");
        due("", "PIPE RANGE NUMBER:2000 TRY RAISE ARRAY COMMA SELF SELF", "[0,0] [1,1]");
        due("", "TRY COMMA NUMBER:1000 PIPE STRING:0 RAISE COMMA SELF SELF", "1 'a' 'a'");
        due("", "TRY NUMBER:1000 RAISE", "1");
        due("", "TRY EACH RAISE", "!1");
        due("", "TRY EACH COMMA SELF RAISE", "1 !1");
        due("", "TRY CALC:3 NUMBER:1 NUMBER:1 SELF", "2");
        due("", "TRY RANGE NUMBER:17000 SELF", "no room");
        due("", "OR RANGE NUMBER:17000 SELF", "no room");
        dueSteps("", "TRY NUMBER:1000 NUMBER:1000", 2);
        due(MIXED, "OR EACH RAISE", "true 0 ''");
        due("", "OR COMMA WORD:0 COMMA WORD:1 RAISE COMMA NUMBER:1000 SELF", "1 null");
        due("", "OR COMMA WORD:2 RAISE NUMBER:1000", "true");
        due("STRING:0", "OR EMPTY COMMA SELF RAISE", "'a' !'a'");
        dueSteps("", "OR WORD:2 NUMBER:1000", 2);
        due("", "LIMIT:2 COMMA NUMBER:1000 COMMA NUMBER:2000 RAISE", "1 2");
        due("", "LIMIT:3 COMMA NUMBER:1000 COMMA NUMBER:2000 RAISE", "1 2 !null");
        due("", "LIMIT:9 RANGE NUMBER:16000", "0 1 2 3 4 5 6 7 8");
        due("", "LIMIT:0 RAISE", "");
        due("", "LIMIT:9 NUMBER:1000", "1");
        dueSteps("", "LIMIT:0 RAISE", 1);
    }

    private static void variables() {
        due(NUMBERS, "BIND:0 EACH CALC:2 VARIABLE:0 VARIABLE:0", "9 2.25 4");
        due(NUMBERS, "BIND:3 EACH LENGTH", "3 3 3");
        due("", "COMMA BIND:1 NUMBER:1000 VARIABLE:1 VARIABLE:1", "1 null");
        due("", "BIND:1 NUMBER:1000 COMMA BIND:1 CALC:0 VARIABLE:1 NUMBER:1000 VARIABLE:1 VARIABLE:1", "2 1");
        due("", "BIND:0 NUMBER:1000 BIND:1 NUMBER:2000 CALC:1 VARIABLE:1 VARIABLE:0", "1");
        due("", "TRY BIND:0 NUMBER:1000 RAISE VARIABLE:0", "null");
        due("", "BIND:0 COMMA WORD:1 RAISE VARIABLE:0", "false !null");
        due(NUMBERS, "REDUCE:0 EACH NUMBER:0 CALC:0 SELF VARIABLE:0", "2.5");
        due(NUMBERS, "REDUCE:0 EACH COMMA NOTHING RAISE CALC:0 SELF ARRAY VARIABLE:0", "![3,1.5,-2]");
        due(NUMBERS, "REDUCE:0 EACH COMMA NOTHING WORD:2 COMMA RAISE SELF", "![]");
        due(NUMBERS, "REDUCE:0 EACH EMPTY COMMA SELF ARRAY SELF", "[[[null]]]");
        due(NUMBERS, "REDUCE:0 EACH NUMBER:1000 EMPTY", "null");
        due(NUMBERS, "REDUCE:0 EMPTY COMMA STRING:0 STRING:1 RAISE", "'a'");
        due(NUMBERS, "REDUCE:0 EMPTY EMPTY RAISE", "null");
        due(NUMBERS, "REDUCE:0 COMMA EACH RAISE NUMBER:0 CALC:0 SELF VARIABLE:0", "![3,1.5,-2]");
        due(NUMBERS, "REDUCE:0 COMMA EACH RAISE NUMBER:0 PIPE STRING:0 RAISE", "!'a'");
        due("", "COMMA REDUCE:2 NUMBER:1000 SELF SELF VARIABLE:2", "null null");
        due("", "BIND:2 STRING:0 COMMA REDUCE:2 NUMBER:1000 SELF VARIABLE:2 VARIABLE:2", "1 'a'");
        due("", "BIND:2 STRING:0 REDUCE:2 NUMBER:1000 VARIABLE:2 SELF", "'a'");
        due("", "COMMA STRING:0 TRY REDUCE:2 NUMBER:1000 SELF RAISE VARIABLE:2", "'a' null");
        dueSteps(NUMBERS, "REDUCE:0 EACH NUMBER:0 CALC:0 SELF VARIABLE:0", 12);
    }

    private static void measures() {
        due("", "LENGTH", "0");
        due("NUMBER:-1500", "LENGTH", "1.5");
        due("STRING:7", "LENGTH", "12");
        due(TWELVE, "LENGTH", "12");
        due(AB, "LENGTH", "2");
        due("NOTHING", "LENGTH", "0");
        due("WORD:1", "LENGTH", "!1");
        due("WORD:2", "LENGTH", "!1");
        due(AB, "KEYS", "['a','b']");
        due(TWELVE, "KEYS", "[0,1,2,3,4,5,6,7,8,9,10,11]");
        due("NOTHING", "KEYS", "[]");
        due("", "KEYS", "!1");
        due("STRING:0", "KEYS", "!1");
        due(NUMBERS, "SORT", "[-2,1.5,3]");
        due("ARRAY COMMA COMMA STRING:1 OBJECT:0 SELF COMMA COMMA NOTHING STRING:0 COMMA WORD:2 COMMA NUMBER:0 WORD:0",
                "SORT", "[null,true,0,'a','b',[],{a:null}]");
        due("NOTHING", "SORT", "[]");
        due(AB, "SORT", "!1");
        due("", "SORT", "!1");
        due(NUMBERS, "SUM", "2.5");
        due("NOTHING", "SUM", "null");
        due("ARRAY COMMA SELF COMMA STRING:0 COMMA SELF STRING:1", "SUM", "'ab'");
        due("ARRAY COMMA OBJECT:1 SELF COMMA OBJECT:0 SELF OBJECT:1 WORD:2", "SUM", "{a:null,b:true}");
        due("ARRAY COMMA NUMBER:0 STRING:1", "SUM", "!1");
        due("ARRAY WORD:2", "SUM", "true");
        due("ARRAY COMMA WORD:2 WORD:2", "SUM", "!1");
        due("ARRAY COMMA STRING:7 COMMA STRING:0 NUMBER:0", "SUM", "no room");
        due("ARRAY COMMA STRING:0 COMMA NUMBER:0 COMMA STRING:7 STRING:7", "SUM", "!1");
        due(AB, "SUM", "!1");
        due("ARRAY COMMA NOTHING SELF", "ALL", "[[],null] [] null");
        due("OBJECT:0 ARRAY COMMA NUMBER:0 OBJECT:1 WORD:2", "ALL", "{a:[0,{b:true}]} [0,{b:true}] 0 {b:true} true");
        due("STRING:0", "ALL", "'a'");
        due("NUMBER:1999", "FLOOR", "1");
        due("NUMBER:-1", "FLOOR", "-1");
        due("NUMBER:-2000", "FLOOR", "-2");
        due("", "FLOOR", "!1");
        due("STRING:0", "FLOOR", "!1");
    }

    private static void room() {
        due(TWELVE, "SELF", "[0,1,2,3,4,5,6,7,8,9,10,11]");
        due("", "ARRAY RANGE NUMBER:13000", "no room");
        due("ARRAY RANGE NUMBER:11000", "PIPE ARRAY COMMA SELF EACH LENGTH", "12");
        due("ARRAY RANGE NUMBER:10000", "PIPE ARRAY COMMA SELF COMMA SELF WORD:0 LENGTH", "3");
        due("ARRAY RANGE NUMBER:10000", "PIPE ARRAY COMMA SELF COMMA SELF COMMA WORD:0 WORD:0 LENGTH", "no room");
        due("ARRAY RANGE NUMBER:11000", "PIPE CALC:0 OBJECT:0 SELF OBJECT:1 SELF LENGTH", "no room");
        due("ARRAY RANGE NUMBER:10000", "PIPE CALC:0 OBJECT:0 SELF OBJECT:1 SELF LENGTH", "2");
        due("", "ARRAY ARRAY ARRAY ARRAY NOTHING", "[[[[[]]]]]");
        due("", "ARRAY ARRAY ARRAY ARRAY ARRAY NOTHING", "no room");
        due("ARRAY ARRAY ARRAY NOTHING", "ARRAY SELF", "[[[[[]]]]]");
        due("ARRAY ARRAY ARRAY ARRAY NOTHING", "ARRAY SELF", "no room");
        due("ARRAY ARRAY ARRAY ARRAY NOTHING", "OBJECT:0 SELF", "no room");
        due("", "OBJECT:0 ARRAY OBJECT:0 ARRAY OBJECT:1 WORD:2", "{a:[{a:[{b:true}]}]}");
        due("", "OBJECT:0 ARRAY OBJECT:0 ARRAY OBJECT:1 NOTHING", "no room");
        due("", "OBJECT:0 OBJECT:0 OBJECT:0 OBJECT:0 OBJECT:0 OBJECT:0 SELF", "no room");
        due("ARRAY RANGE NUMBER:8000", "COMMA EACH EACH", "0 1 2 3 4 5 6 7 0 1 2 3 4 5 6 7");
        due("ARRAY RANGE NUMBER:8000", "PIPE COMMA EACH COMMA EACH SELF EMPTY", "no room");
        due("ARRAY RANGE NUMBER:8000", "COMMA EACH COMMA EACH RAISE", "0 1 2 3 4 5 6 7 0 1 2 3 4 5 6 7 !"
                + "[0,1,2,3,4,5,6,7]");
        due("ARRAY COMMA SELF COMMA SELF ARRAY RANGE NUMBER:12000", "ALL", "[null,null,[0,1,2,3,4,5,6,7,8,9,10,11]] null "
                + "null [0,1,2,3,4,5,6,7,8,9,10,11] 0 1 2 3 4 5 6 7 8 9 10 11");
        due("ARRAY COMMA COMMA SELF SELF COMMA SELF ARRAY RANGE NUMBER:12000", "ALL", "no room");
    }

    private static void steps() {
        // 1 REDUCE, 1 F, 2 for the row of 16 and 9 for each x of it is 148.
        String sixteen = "REDUCE:0 RANGE NUMBER:16000 SELF ";
        String nine = "COMMA COMMA SELF SELF COMMA COMMA SELF SELF SELF";
        due("", sixteen + nine, "null");
        dueSteps("", sixteen + nine, 148);
        due("", "COMMA " + sixteen + nine + " SELF", "null null");
        dueSteps("", "COMMA " + sixteen + nine + " SELF", 150);
        due("", "ARRAY COMMA " + sixteen + nine + " SELF", "no room");
        dueSteps("", "ARRAY COMMA " + sixteen + nine + " SELF", 0);
        due("", "TRY PIPE SELF COMMA " + sixteen + nine + " RAISE SELF", "no room");
        dueSteps("", "COMMA " + sixteen + nine + " RAISE", 150);
    }

    private static void rightFilters() {
        due("", "PIPE SELF", "not right");
        due("", "SELF SELF", "not right");
        due("", "IF SELF SELF", "not right");
        due("", "REDUCE:0 SELF SELF", "not right");
        due("", "REDUCE:0 SELF SELF SELF SELF", "not right");
        due("", "RANGE", "not right");
        due("", "LIMIT:0", "not right");
        due("", "PIPE PIPE PIPE PIPE PIPE PIPE PIPE SELF SELF SELF SELF SELF SELF SELF SELF", "null");
        due("", "PIPE PIPE PIPE PIPE PIPE PIPE PIPE PIPE SELF SELF SELF SELF SELF SELF SELF SELF SELF", "not right");
        due("", "COMMA SELF COMMA SELF COMMA SELF COMMA SELF COMMA SELF COMMA SELF COMMA SELF SELF",
                "null null null null null null null null");
        due("", "COMMA SELF COMMA SELF COMMA SELF COMMA SELF COMMA SELF COMMA SELF COMMA SELF COMMA SELF SELF",
                "not right");
        due("", "LIMIT:0 LIMIT:0 LIMIT:0 LIMIT:0 LIMIT:0 LIMIT:0 LIMIT:0 RAISE", "");
        due("", "LIMIT:0 LIMIT:0 LIMIT:0 LIMIT:0 LIMIT:0 LIMIT:0 LIMIT:0 LIMIT:0 RAISE", "not right");
        for (int op = 0; op < Script.OPS.size(); op++) {
            partsOf(op);
        }
    }

    /** Exactly one number of SELFs behind a token makes it RIGHT. */
    private static void partsOf(int op) {
        int[] parts = {
            0, 0, 1, 0, 2, 2, 0, 0, 0, 1,
            0, 1, 2, 2, 2, 2, 0, 3, 2, 2,
            2, 0, 3, 0, 0, 0, 0, 0, 0, 1,
            0, 1, 1, 1, 0};
        StringBuilder tokens = new StringBuilder(Script.OPS.get(op));
        for (int selves = 0; selves < 5; selves++) {
            boolean right = !Script.withStrings().ran(tokens.toString(), 0).equals("not right");
            Checks.same(tokens + " is RIGHT", Boolean.toString(right), Boolean.toString(selves == parts[op]));
            tokens.append(" SELF");
        }
    }

    public static void main(String[] args) {
        plainTokens();
        fieldsAndIndexes();
        joins();
        calculations();
        comparisons();
        choices();
        variables();
        measures();
        room();
        steps();
        rightFilters();
        Checks.end();
    }
}
