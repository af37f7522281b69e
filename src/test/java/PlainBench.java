import java.math.BigDecimal;
import java.math.RoundingMode;
import java.util.ArrayList;
import java.util.Arrays;
import java.util.List;
import java.util.NoSuchElementException;
import java.util.TreeMap;

/**
 * The document written down a second time with the whole Java library, and nothing in common with FilterBench:
 * values are null, Boolean, BigDecimal, String, List and TreeMap, and the filter is read as it is worked out.
 */
final class PlainBench {
    private static final class NoRoom extends RuntimeException {
        private static final long serialVersionUID = 1L;
    }

    /** A row and, if an ERROR ended it, that ERROR's value. */
    private static final class Answer {
        final List<Object> row = new ArrayList<>();
        boolean failed;
        Object fault;

        void put(Object v) {
            row.add(v);
            if (row.size() > 16) {
                throw new NoRoom();
            }
        }

        void fail(Object v) {
            failed = true;
            fault = v;
        }

        void fail(int number) {
            fail(new BigDecimal(number));
        }

        /** Puts another answer behind; says whether to go on. */
        boolean join(Answer other) {
            for (Object v : other.row) {
                put(v);
            }
            if (other.failed) {
                fail(other.fault);
            }
            return !failed;
        }
    }

    /** An expression as a tree. */
    private static final class Tree {
        int op;
        int a;
        final List<Tree> parts = new ArrayList<>();
    }

    private static final int[] PARTS = {
        0, 0, 1, 0, 2, 2, 0, 0, 0, 1,
        0, 1, 2, 2, 2, 2, 0, 3, 2, 2,
        2, 0, 3, 0, 0, 0, 0, 0, 0, 1,
        0, 1, 1, 1, 0};

    private final Object[] slots = new Object[8];
    private final String[] strings = new String[8];
    private final List<List<int[]>> filters = new ArrayList<>();
    private List<Object> outputs = new ArrayList<>();
    private Object fault;
    private int begun;
    private int lastBegun;
    private int errors;
    private int roomless;
    private int reading;

    PlainBench() {
        Arrays.fill(strings, "");
        for (int k = 0; k < 4; k++) {
            filters.add(new ArrayList<>());
        }
    }

    int letter(int string, int character) {
        need(string >= 0 && string <= 7 && character >= 32 && character <= 126);
        if (strings[string].length() == 12) {
            throw new IllegalStateException();
        }
        strings[string] += (char) character;
        return strings[string].length();
    }

    int token(int filter, int op, int a) {
        need(filter >= 0 && filter <= 3 && op >= 0 && op <= 34);
        int last = switch (op) {
            case 1, 7, 11 -> 7;
            case 12 -> 3;
            case 13 -> 5;
            case 8 -> 2;
            case 20, 21, 22 -> 3;
            case 31 -> 9;
            default -> -1;
        };
        need(last < 0 || a >= 0 && a <= last);
        if (filters.get(filter).size() == 32) {
            throw new IllegalStateException();
        }
        filters.get(filter).add(new int[] {op, a});
        return filters.get(filter).size();
    }

    int wipe(int what, int number) {
        need(what == 0 && number >= 0 && number <= 3 || what == 1 && number >= 0 && number <= 7);
        int had;
        if (what == 0) {
            had = filters.get(number).size();
            filters.get(number).clear();
        } else {
            had = strings[number].length();
            strings[number] = "";
        }
        return had;
    }

    int run(int filter, int slot) {
        need(filter >= 0 && filter <= 3 && slot >= 0 && slot <= 7);
        reading = 0;
        Tree tree = read(filters.get(filter), 0);
        if (tree == null || reading != filters.get(filter).size()) {
            throw new NoSuchElementException();
        }
        begun = 0;
        fault = null;
        try {
            Answer answer = eval(tree, slots[slot], new Object[4]);
            outputs = answer.row;
            lastBegun = begun;
            if (answer.failed) {
                fault = answer.fault;
                errors++;
                throw new UnsupportedOperationException();
            }
            return outputs.size();
        } catch (NoRoom e) {
            outputs = new ArrayList<>();
            lastBegun = 0;
            roomless++;
            throw new IllegalStateException();
        }
    }

    int keep(int slot, int k) {
        need(slot >= 0 && slot <= 7);
        if (k < -1 || k >= outputs.size()) {
            throw new NoSuchElementException();
        }
        slots[slot] = k == -1 ? fault : outputs.get(k);
        return parts(slots[slot], null).size();
    }

    int kind(int slot, int i) {
        return kindOf(part(slot, i)[0]);
    }

    int length(int slot, int i) {
        Object v = part(slot, i)[0];
        return v instanceof String s ? s.length() : items(v) == null ? 0 : items(v).size();
    }

    int number(int slot, int i, boolean scale) {
        Object v = part(slot, i)[0];
        return v instanceof BigDecimal d ? (scale ? d.scale() : d.unscaledValue().intValueExact()) : 0;
    }

    int character(int slot, int i, int k, boolean name) {
        Object text = part(slot, i)[name ? 1 : 0];
        if (text instanceof String s && k >= 0 && k < s.length()) {
            return s.charAt(k);
        }
        throw new NoSuchElementException();
    }

    int order(int a, int b) {
        need(a >= 0 && a <= 7 && b >= 0 && b <= 7);
        return compare(slots[a], slots[b]);
    }

    int count(int what) {
        return switch (what) {
            case 0 -> outputs.size();
            case 1 -> lastBegun;
            case 2 -> errors;
            case 3 -> roomless;
            default -> -1;
        };
    }

    private static void need(boolean right) {
        if (!right) {
            throw new IllegalArgumentException();
        }
    }

    private Object[] part(int slot, int i) {
        need(slot >= 0 && slot <= 7);
        List<Object[]> all = parts(slots[slot], null);
        if (i < 0 || i >= all.size()) {
            throw new NoSuchElementException();
        }
        return all.get(i);
    }

    /** All PARTS of a value, each with its name (null if it has none). */
    private static List<Object[]> parts(Object v, String name) {
        List<Object[]> all = new ArrayList<>();
        all.add(new Object[] {v, name});
        if (v instanceof List<?> list) {
            for (Object item : list) {
                all.addAll(parts(item, null));
            }
        } else if (v instanceof TreeMap<?, ?> map) {
            for (Object key : map.keySet()) {
                all.addAll(parts(map.get(key), (String) key));
            }
        }
        return all;
    }

    private Tree read(List<int[]> tokens, int outer) {
        if (reading >= tokens.size() || outer > 7) {
            return null;
        }
        Tree tree = new Tree();
        tree.op = tokens.get(reading)[0];
        tree.a = tokens.get(reading)[1];
        reading++;
        for (int k = 0; k < PARTS[tree.op]; k++) {
            Tree part = read(tokens, outer + 1);
            if (part == null) {
                return null;
            }
            tree.parts.add(part);
        }
        return tree;
    }

    private static int kindOf(Object v) {
        if (v == null) {
            return 0;
        }
        if (v instanceof Boolean b) {
            return b ? 2 : 1;
        }
        return v instanceof BigDecimal ? 3 : v instanceof String ? 4 : v instanceof List ? 5 : 6;
    }

    /** The items or members' values, null for other kinds. */
    private static List<Object> items(Object v) {
        if (v instanceof List<?> list) {
            return new ArrayList<>(list);
        }
        if (v instanceof TreeMap<?, ?> map) {
            return new ArrayList<>(map.values());
        }
        return null;
    }

    private static boolean good(Object v) {
        return kindOf(v) >= 2;
    }

    private static int depth(Object v) {
        if (items(v) == null) {
            return 0;
        }
        int deepest = 0;
        for (Object item : items(v)) {
            deepest = Math.max(deepest, depth(item));
        }
        return deepest + 1;
    }

    /** The value itself, if there is room for it. */
    private static Object checked(Object v) {
        if (v instanceof BigDecimal d) {
            BigDecimal least = d.signum() == 0 ? BigDecimal.ZERO : d.stripTrailingZeros();
            if (least.scale() < 0) {
                least = least.setScale(0);
            }
            if (least.scale() > 6 || least.unscaledValue().abs().bitLength() > 40
                    || least.unscaledValue().abs().longValueExact() > 999999999L) {
                throw new NoRoom();
            }
            return least;
        }
        boolean tooMuch = v instanceof String s && s.length() > 12 || v instanceof List<?> l && l.size() > 12
                || v instanceof TreeMap<?, ?> m && m.size() > 6;
        if (tooMuch || parts(v, null).size() > 24 || depth(v) > 5) {
            throw new NoRoom();
        }
        return v;
    }

    private static int compare(Object v, Object w) {
        if (kindOf(v) != kindOf(w)) {
            return Integer.signum(kindOf(v) - kindOf(w));
        }
        if (v instanceof BigDecimal d) {
            return d.compareTo((BigDecimal) w);
        }
        if (v instanceof String s) {
            return Integer.signum(s.compareTo((String) w));
        }
        if (v instanceof TreeMap<?, ?> m) {
            int byNames = compareLists(new ArrayList<>(m.keySet()), new ArrayList<>(((TreeMap<?, ?>) w).keySet()));
            return byNames != 0 ? byNames : compareLists(items(v), items(w));
        }
        return v instanceof List ? compareLists(items(v), items(w)) : 0;
    }

    private static int compareLists(List<?> v, List<?> w) {
        for (int k = 0; k < v.size() && k < w.size(); k++) {
            int by = compare(v.get(k), w.get(k));
            if (by != 0) {
                return by;
            }
        }
        return Integer.signum(v.size() - w.size());
    }

    private Answer eval(Tree t, Object v, Object[] vars) {
        begun++;
        if (begun == 151) {
            throw new NoRoom();
        }
        return switch (PARTS[t.op]) {
            case 0 -> leaf(t, v, vars);
            case 1 -> one(t, v, vars);
            case 2 -> two(t, v, vars);
            default -> t.op == 17 ? choice(t, v, vars) : reduce(t, v, vars);
        };
    }

    private Answer leaf(Tree t, Object v, Object[] vars) {
        Answer out = new Answer();
        List<Object> items = items(v);
        boolean array = v instanceof List;
        boolean number = v instanceof BigDecimal;
        switch (t.op) {
            case 0 -> out.put(v);
            case 1 -> field(v, strings[t.a], out);
            case 3 -> {
                if (items == null) {
                    out.fail(1);
                } else {
                    items.forEach(out::put);
                }
            }
            case 6 -> out.put(checked(new BigDecimal(t.a).movePointLeft(3)));
            case 7 -> out.put(strings[t.a]);
            case 8 -> out.put(t.a == 0 ? null : (Object) (t.a == 2));
            case 10 -> out.put(new ArrayList<>());
            case 16 -> out.put(!good(v));
            case 21 -> out.put(vars[t.a]);
            case 23 -> {
                if (v instanceof Boolean) {
                    out.fail(1);
                } else {
                    out.put(v == null ? BigDecimal.ZERO : v instanceof BigDecimal d ? d.abs()
                            : new BigDecimal(v instanceof String s ? s.length() : items.size()));
                }
            }
            case 24 -> keys(v, out);
            case 25 -> { }
            case 26 -> out.fail(v);
            case 27 -> {
                if (array) {
                    items.sort(PlainBench::compare);
                    out.put(items);
                } else {
                    out.fail(1);
                }
            }
            case 28 -> {
                if (array) {
                    sum(items, out);
                } else {
                    out.fail(1);
                }
            }
            case 30 -> {
                for (Object[] part : parts(v, null)) {
                    out.put(part[0]);
                }
            }
            default -> {
                if (number) {
                    out.put(checked(((BigDecimal) v).setScale(0, RoundingMode.FLOOR)));
                } else {
                    out.fail(1);
                }
            }
        }
        return out;
    }

    private static void field(Object v, String name, Answer out) {
        if (v == null) {
            out.put(null);
        } else if (v instanceof TreeMap<?, ?> m) {
            out.put(m.get(name));
        } else {
            out.fail(1);
        }
    }

    private static void keys(Object v, Answer out) {
        List<Object> keys = new ArrayList<>();
        if (v instanceof TreeMap<?, ?> m) {
            keys.addAll(m.keySet());
        } else if (v instanceof List<?> l) {
            for (int k = 0; k < l.size(); k++) {
                keys.add(new BigDecimal(k));
            }
        } else {
            out.fail(1);
            return;
        }
        out.put(keys);
    }

    private static void sum(List<Object> items, Answer out) {
        Object sum = null;
        for (Object item : items) {
            Answer next = new Answer();
            calc(0, sum, item, next);
            if (next.failed) {
                out.fail(next.fault);
                return;
            }
            sum = next.row.get(0);
        }
        out.put(sum);
    }

    private Answer one(Tree t, Object v, Object[] vars) {
        Answer out = new Answer();
        if (t.op == 31 && t.a == 0) {
            return out;
        }
        Answer in = eval(t.parts.get(0), v, vars);
        if (t.op == 9) {
            if (in.failed) {
                out.fail(in.fault);
            } else {
                out.put(checked(in.row));
            }
            return out;
        }
        if (t.op == 31) {
            in.row.stream().limit(t.a).forEach(out::put);
            if (in.failed && in.row.size() < t.a) {
                out.fail(in.fault);
            }
            return out;
        }
        for (Object x : in.row) {
            Answer of = new Answer();
            switch (t.op) {
                case 2 -> index(v, x, of);
                case 11 -> {
                    TreeMap<String, Object> object = new TreeMap<>();
                    object.put(strings[t.a], x);
                    of.put(checked(object));
                }
                case 29 -> range(x, of);
                case 32 -> has(v, x, of);
                default -> {
                    if (good(x)) {
                        of.put(v);
                    }
                }
            }
            if (!out.join(of)) {
                return out;
            }
        }
        if (in.failed) {
            out.fail(in.fault);
        }
        return out;
    }

    private static void index(Object v, Object i, Answer out) {
        if (v == null) {
            out.put(null);
        } else if (v instanceof List<?> l && i instanceof BigDecimal d) {
            int k = d.setScale(0, RoundingMode.FLOOR).intValueExact();
            k = k < 0 ? k + l.size() : k;
            out.put(k >= 0 && k < l.size() ? l.get(k) : null);
        } else if (v instanceof TreeMap && i instanceof String s) {
            field(v, s, out);
        } else {
            out.fail(1);
        }
    }

    private static void has(Object v, Object i, Answer out) {
        if (v instanceof TreeMap<?, ?> m && i instanceof String s) {
            out.put(m.containsKey(s));
        } else if (v instanceof List<?> l && i instanceof BigDecimal d) {
            out.put(d.signum() >= 0 && d.compareTo(new BigDecimal(l.size())) < 0);
        } else {
            out.fail(1);
        }
    }

    private static void range(Object n, Answer out) {
        if (n instanceof BigDecimal d) {
            for (BigDecimal k = BigDecimal.ZERO; k.compareTo(d) < 0; k = k.add(BigDecimal.ONE)) {
                out.put(k);
            }
        } else {
            out.fail(1);
        }
    }

    private Answer two(Tree t, Object v, Object[] vars) {
        Tree e = t.parts.get(0);
        Tree f = t.parts.get(1);
        if (t.op == 12 || t.op == 13) {
            return pairs(t, v, vars);
        }
        Answer in = eval(e, v, vars);
        Answer out = new Answer();
        if (t.op == 5) {
            if (out.join(in)) {
                out.join(eval(f, v, vars));
            }
            return out;
        }
        if (t.op == 18) {
            in.row.forEach(out::put);
            if (in.failed) {
                out.join(eval(f, in.fault, vars));
            }
            return out;
        }
        if (t.op == 19) {
            in.row.stream().filter(PlainBench::good).forEach(out::put);
            return out.row.isEmpty() ? eval(f, v, vars) : out;
        }
        for (Object x : in.row) {
            if (!out.join(forOne(t, v, x, vars))) {
                return out;
            }
        }
        if (in.failed) {
            out.fail(in.fault);
        }
        return out;
    }

    /** What comes of one x of E for PIPE, BIND, BOTH and EITHER. */
    private Answer forOne(Tree t, Object v, Object x, Object[] vars) {
        Tree f = t.parts.get(1);
        if (t.op == 4) {
            return eval(f, x, vars);
        }
        if (t.op == 20) {
            Object[] inner = vars.clone();
            inner[t.a] = x;
            return eval(f, v, inner);
        }
        Answer out = new Answer();
        if (t.op == 14 && !good(x)) {
            out.put(false);
        } else if (t.op == 15 && good(x)) {
            out.put(true);
        } else {
            Answer ys = eval(f, v, vars);
            ys.row.forEach(y -> out.put(good(y)));
            if (ys.failed) {
                out.fail(ys.fault);
            }
        }
        return out;
    }

    private Answer pairs(Tree t, Object v, Object[] vars) {
        Answer out = new Answer();
        Answer ys = eval(t.parts.get(1), v, vars);
        for (Object y : ys.row) {
            Answer xs = eval(t.parts.get(0), v, vars);
            for (Object x : xs.row) {
                Answer of = new Answer();
                if (t.op == 12) {
                    calc(t.a, x, y, of);
                } else {
                    int by = compare(x, y);
                    boolean[] holds = {by == 0, by != 0, by < 0, by <= 0, by > 0, by >= 0};
                    of.put(holds[t.a]);
                }
                if (!out.join(of)) {
                    return out;
                }
            }
            if (xs.failed) {
                out.fail(xs.fault);
                return out;
            }
        }
        if (ys.failed) {
            out.fail(ys.fault);
        }
        return out;
    }

    private static void calc(int a, Object x, Object y, Answer out) {
        if (a == 0 && (x == null || y == null)) {
            out.put(x == null ? y : x);
        } else if (x instanceof BigDecimal d && y instanceof BigDecimal e) {
            calcNumbers(a, d, e, out);
        } else if (a == 0 && x instanceof String s && y instanceof String r) {
            out.put(checked(s + r));
        } else if (a == 0 && x instanceof List && y instanceof List) {
            List<Object> both = items(x);
            both.addAll(items(y));
            out.put(checked(both));
        } else if (a == 0 && x instanceof TreeMap<?, ?> m && y instanceof TreeMap<?, ?> n) {
            TreeMap<String, Object> both = new TreeMap<>();
            m.forEach((name, value) -> both.put((String) name, value));
            n.forEach((name, value) -> both.put((String) name, value));
            out.put(checked(both));
        } else if (a == 1 && x instanceof List && y instanceof List) {
            List<Object> left = items(x);
            left.removeIf(item -> items(y).stream().anyMatch(other -> compare(item, other) == 0));
            out.put(left);
        } else {
            out.fail(1);
        }
    }

    private static void calcNumbers(int a, BigDecimal x, BigDecimal y, Answer out) {
        if (a == 3) {
            BigDecimal divisor = y.setScale(0, RoundingMode.DOWN);
            if (divisor.signum() == 0) {
                out.fail(2);
            } else {
                out.put(checked(x.setScale(0, RoundingMode.DOWN).remainder(divisor)));
            }
            return;
        }
        out.put(checked(a == 0 ? x.add(y) : a == 1 ? x.subtract(y) : x.multiply(y)));
    }

    private Answer choice(Tree t, Object v, Object[] vars) {
        Answer out = new Answer();
        Answer in = eval(t.parts.get(0), v, vars);
        for (Object x : in.row) {
            if (!out.join(eval(t.parts.get(good(x) ? 1 : 2), v, vars))) {
                return out;
            }
        }
        if (in.failed) {
            out.fail(in.fault);
        }
        return out;
    }

    private Answer reduce(Tree t, Object v, Object[] vars) {
        Answer out = new Answer();
        Answer first = eval(t.parts.get(1), v, vars);
        if (first.failed) {
            out.fail(first.fault);
            return out;
        }
        Object z = first.row.isEmpty() ? null : first.row.get(0);
        Answer in = eval(t.parts.get(0), v, vars);
        for (Object x : in.row) {
            Object[] inner = vars.clone();
            inner[t.a] = x;
            Answer next = eval(t.parts.get(2), z, inner);
            if (next.failed) {
                out.fail(next.fault);
                return out;
            }
            z = next.row.isEmpty() ? null : next.row.get(next.row.size() - 1);
        }
        if (in.failed) {
            out.fail(in.fault);
        } else {
            out.put(z);
        }
        return out;
    }
}
