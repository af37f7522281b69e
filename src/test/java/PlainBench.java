import java.math.BigDecimal;
import java.math.RoundingMode;
import java.util.ArrayList;
import java.util.Arrays;
import java.util.List;
import java.util.NoSuchElementException;
import java.util.TreeMap;
import java.util.function.Function;
import java.util.function.Supplier;

/**
 * The document written down a second time with the whole Java library, and nothing in common with FilterBench:
 * values are null, Boolean, BigDecimal, String, List and TreeMap, and the filter is read as it is worked out.
 */
final class PlainBench {
    /**
     * How the document is read where its words can be taken in more than one way: whether a row is worked out whole
     * before it is gone through, whether ALL begins anew for each part, whether REDUCE works out E before F.
     */
    private record Reading(boolean wholeRows, boolean allForEachPart, boolean reduceRowFirst) {
    }

    private static final Reading PLAINEST = new Reading(true, false, false);

    private static final class NoRoom extends RuntimeException {
        private static final long serialVersionUID = 1L;
    }

    /** An ERROR with its value. */
    private static final class Fault extends RuntimeException {
        private static final long serialVersionUID = 1L;
        final transient Object value;

        Fault(Object value) {
            super(null, null, false, false);
            this.value = value;
        }
    }

    /** A row that is worked out as it is asked for: the next value, END behind the last one, or a Fault. */
    private interface Row {
        Object next();
    }

    private static final Object END = new Object();

    /** What came of a run; outputs is null if there was no ROOM. */
    private record Outcome(List<Object> outputs, boolean failed, Object fault, int begun) {
    }

    /** An expression as a tree. */
    private static final class Tree {
        int op;
        int a;
        final List<Tree> parts = new ArrayList<>();
    }

    private final Object[] slots = new Object[8];
    private final String[] strings = new String[8];
    private final List<List<int[]>> filters = new ArrayList<>();
    private List<Object> outputs = new ArrayList<>();
    private Object fault;
    private int begun;
    private int lastBegun;
    private int errors;
    private int roomless;
    private int read;
    private Reading reading = PLAINEST;

    PlainBench() {
        Arrays.fill(strings, "");
        for (int k = 0; k < 4; k++) {
            filters.add(new ArrayList<>());
        }
    }

    int letter(int string, int character) {
        need(string >= 0 && string <= 7 && character >= 32 && character <= 126);
        if (strings[string].length() == 12) {
            throw new IllegalStateException();
        }
        strings[string] += (char) character;
        return strings[string].length();
    }

    int token(int filter, int op, int a) {
        need(filter >= 0 && filter <= 3 && op >= 0 && op <= 34);
        int last = switch (op) {
            case 1, 7, 11 -> 7;
            case 12 -> 3;
            case 13 -> 5;
            case 8 -> 2;
            case 20, 21, 22 -> 3;
            case 31 -> 9;
            default -> -1;
        };
        need(last < 0 || a >= 0 && a <= last);
        if (filters.get(filter).size() == 32) {
            throw new IllegalStateException();
        }
        filters.get(filter).add(new int[] {op, a});
        return filters.get(filter).size();
    }

    int wipe(int what, int number) {
        need(what == 0 && number >= 0 && number <= 3 || what == 1 && number >= 0 && number <= 7);
        int had;
        if (what == 0) {
            had = filters.get(number).size();
            filters.get(number).clear();
        } else {
            had = strings[number].length();
            strings[number] = "";
        }
        return had;
    }

    int run(int filter, int slot) {
        need(filter >= 0 && filter <= 3 && slot >= 0 && slot <= 7);
        Tree tree = tree(filter);
        if (tree == null) {
            throw new NoSuchElementException();
        }
        Outcome outcome = outcome(tree, slots[slot], PLAINEST);
        fault = outcome.fault;
        lastBegun = outcome.begun;
        if (outcome.outputs == null) {
            outputs = new ArrayList<>();
            roomless++;
            throw new IllegalStateException();
        }
        outputs = outcome.outputs;
        if (outcome.failed) {
            errors++;
            throw new UnsupportedOperationException();
        }
        return outputs.size();
    }

    /** Whether the same comes of a run in all readings of the document; also if the run is refused. */
    boolean isSure(int filter, int slot) {
        Tree tree = filter < 0 || filter > 3 || slot < 0 || slot > 7 ? null : tree(filter);
        if (tree == null) {
            return true;
        }
        Outcome plainest = outcome(tree, slots[slot], PLAINEST);
        for (int k = 0; k < 8; k++) {
            Reading other = new Reading((k & 1) != 0, (k & 2) != 0, (k & 4) != 0);
            if (!plainest.equals(outcome(tree, slots[slot], other))) {
                return false;
            }
        }
        return true;
    }

    boolean isRight(int filter) {
        return tree(filter) != null;
    }

    boolean isFull(int filter) {
        return filters.get(filter).size() == 32;
    }

    boolean isSpelled(int string) {
        return strings[string].length() == 12;
    }

    private Outcome outcome(Tree tree, Object v, Reading read) {
        reading = read;
        begun = 0;
        List<Object> row = new ArrayList<>();
        try {
            Row all = eval(tree, v, new Object[4]);
            for (Object x = all.next(); x != END; x = all.next()) {
                row.add(x);
            }
            return new Outcome(row, false, null, begun);
        } catch (Fault f) {
            return new Outcome(row, true, f.value, begun);
        } catch (NoRoom e) {
            return new Outcome(null, false, null, 0);
        }
    }

    int keep(int slot, int k) {
        need(slot >= 0 && slot <= 7);
        if (k < -1 || k >= outputs.size()) {
            throw new NoSuchElementException();
        }
        slots[slot] = k == -1 ? fault : outputs.get(k);
        return parts(slots[slot], null).size();
    }

    int kind(int slot, int i) {
        return kindOf(part(slot, i)[0]);
    }

    int length(int slot, int i) {
        Object v = part(slot, i)[0];
        return v instanceof String s ? s.length() : items(v) == null ? 0 : items(v).size();
    }

    int number(int slot, int i, boolean scale) {
        Object v = part(slot, i)[0];
        return v instanceof BigDecimal d ? (scale ? d.scale() : d.unscaledValue().intValueExact()) : 0;
    }

    int character(int slot, int i, int k, boolean name) {
        Object text = part(slot, i)[name ? 1 : 0];
        if (text instanceof String s && k >= 0 && k < s.length()) {
            return s.charAt(k);
        }
        throw new NoSuchElementException();
    }

    int order(int a, int b) {
        need(a >= 0 && a <= 7 && b >= 0 && b <= 7);
        return compare(slots[a], slots[b]);
    }

    int count(int what) {
        return switch (what) {
            case 0 -> outputs.size();
            case 1 -> lastBegun;
            case 2 -> errors;
            case 3 -> roomless;
            default -> -1;
        };
    }

    private static void need(boolean right) {
        if (!right) {
            throw new IllegalArgumentException();
        }
    }

    private Object[] part(int slot, int i) {
        need(slot >= 0 && slot <= 7);
        List<Object[]> all = parts(slots[slot], null);
        if (i < 0 || i >= all.size()) {
            throw new NoSuchElementException();
        }
        return all.get(i);
    }

    /** All PARTS of a value, each with its name (null if it has none). */
    private static List<Object[]> parts(Object v, String name) {
        List<Object[]> all = new ArrayList<>();
        all.add(new Object[] {v, name});
        if (v instanceof List<?> list) {
            for (Object item : list) {
                all.addAll(parts(item, null));
            }
        } else if (v instanceof TreeMap<?, ?> map) {
            for (Object key : map.keySet()) {
                all.addAll(parts(map.get(key), (String) key));
            }
        }
        return all;
    }

    /** The filter as a tree, or null if it is not RIGHT. */
    private Tree tree(int filter) {
        read = 0;
        Tree tree = read(filters.get(filter), 0);
        return read == filters.get(filter).size() ? tree : null;
    }

    private Tree read(List<int[]> tokens, int outer) {
        if (read >= tokens.size() || outer > 7) {
            return null;
        }
        Tree tree = new Tree();
        tree.op = tokens.get(read)[0];
        tree.a = tokens.get(read)[1];
        read++;
        for (int k = 0; k < Script.PARTS[tree.op]; k++) {
            Tree part = read(tokens, outer + 1);
            if (part == null) {
                return null;
            }
            tree.parts.add(part);
        }
        return tree;
    }

    private static int kindOf(Object v) {
        if (v == null) {
            return 0;
        }
        if (v instanceof Boolean b) {
            return b ? 2 : 1;
        }
        return v instanceof BigDecimal ? 3 : v instanceof String ? 4 : v instanceof List ? 5 : 6;
    }

    /** The items or members' values, null for other kinds. */
    private static List<Object> items(Object v) {
        if (v instanceof List<?> list) {
            return new ArrayList<>(list);
        }
        if (v instanceof TreeMap<?, ?> map) {
            return new ArrayList<>(map.values());
        }
        return null;
    }

    private static boolean good(Object v) {
        return kindOf(v) >= 2;
    }

    private static int depth(Object v) {
        if (items(v) == null) {
            return 0;
        }
        int deepest = 0;
        for (Object item : items(v)) {
            deepest = Math.max(deepest, depth(item));
        }
        return deepest + 1;
    }

    /** The value itself, if there is room for it. */
    private static Object checked(Object v) {
        if (v instanceof BigDecimal d) {
            BigDecimal least = d.signum() == 0 ? BigDecimal.ZERO : d.stripTrailingZeros();
            if (least.scale() < 0) {
                least = least.setScale(0);
            }
            if (least.scale() > 6 || least.unscaledValue().abs().bitLength() > 40
                    || least.unscaledValue().abs().longValueExact() > 999999999L) {
                throw new NoRoom();
            }
            return least;
        }
        boolean tooMuch = v instanceof String s && s.length() > 12 || v instanceof List<?> l && l.size() > 12
                || v instanceof TreeMap<?, ?> m && m.size() > 6;
        if (tooMuch || parts(v, null).size() > 24 || depth(v) > 5) {
            throw new NoRoom();
        }
        return v;
    }

    private static int compare(Object v, Object w) {
        if (kindOf(v) != kindOf(w)) {
            return Integer.signum(kindOf(v) - kindOf(w));
        }
        if (v instanceof BigDecimal d) {
            return d.compareTo((BigDecimal) w);
        }
        if (v instanceof String s) {
            return Integer.signum(s.compareTo((String) w));
        }
        if (v instanceof TreeMap<?, ?> m) {
            int byNames = compareLists(new ArrayList<>(m.keySet()), new ArrayList<>(((TreeMap<?, ?>) w).keySet()));
            return byNames != 0 ? byNames : compareLists(items(v), items(w));
        }
        return v instanceof List ? compareLists(items(v), items(w)) : 0;
    }

    private static int compareLists(List<?> v, List<?> w) {
        for (int k = 0; k < v.size() && k < w.size(); k++) {
            int by = compare(v.get(k), w.get(k));
            if (by != 0) {
                return by;
            }
        }
        return Integer.signum(v.size() - w.size());
    }

    private Row eval(Tree t, Object v, Object[] vars) {
        begin();
        Row row = atMost16(worked(t, v, vars));
        return reading.wholeRows ? whole(row) : row;
    }

    private void begin() {
        begun++;
        if (begun == 151) {
            throw new NoRoom();
        }
    }

    private static Row atMost16(Row row) {
        int[] size = {0};
        return () -> {
            Object x = row.next();
            size[0] += x == END ? 0 : 1;
            if (size[0] > 16) {
                throw new NoRoom();
            }
            return x;
        };
    }

    /** The row with all that it needs worked out now. */
    private static Row whole(Row row) {
        List<Object> values = new ArrayList<>();
        try {
            for (Object x = row.next(); x != END; x = row.next()) {
                values.add(x);
            }
        } catch (Fault f) {
            Row before = of(values);
            return () -> {
                Object x = before.next();
                if (x == END) {
                    throw f;
                }
                return x;
            };
        }
        return of(values);
    }

    private static Row of(List<Object> values) {
        int[] at = {0};
        return () -> at[0] < values.size() ? values.get(at[0]++) : END;
    }

    private static Row one(Object v) {
        return of(Arrays.asList(v));
    }

    private static Row forEach(Row row, Function<Object, Row> body) {
        Row[] now = {() -> END};
        return () -> {
            while (true) {
                Object y = now[0].next();
                if (y != END) {
                    return y;
                }
                Object x = row.next();
                if (x == END) {
                    return END;
                }
                now[0] = body.apply(x);
            }
        };
    }

    private static Object wrongKind() {
        throw new Fault(BigDecimal.ONE);
    }

    /** The one value that is made when it is asked for, or the Fault on the way to it. */
    private static Row made(Supplier<Object> maker) {
        boolean[] over = {false};
        return () -> {
            if (over[0]) {
                return END;
            }
            over[0] = true;
            return maker.get();
        };
    }

    private Row worked(Tree t, Object v, Object[] vars) {
        if (t.parts.isEmpty()) {
            return leaf(t, v, vars);
        }
        Tree e = t.parts.get(0);
        Tree f = t.parts.size() > 1 ? t.parts.get(1) : null;
        return switch (t.op) {
            case 2 -> forEach(eval(e, v, vars), i -> made(() -> index(v, i)));
            case 4 -> forEach(eval(e, v, vars), x -> eval(f, x, vars));
            case 5 -> comma(e, f, v, vars);
            case 9 -> made(() -> checked(values(eval(e, v, vars))));
            case 11 -> forEach(eval(e, v, vars), x -> made(() -> checked(object(strings[t.a], x))));
            case 12 -> forEach(eval(f, v, vars), y -> forEach(eval(e, v, vars), x -> made(() -> calc(t.a, x, y))));
            case 13 -> forEach(eval(f, v, vars), y -> forEach(eval(e, v, vars), x -> one(holds(t.a, compare(x, y)))));
            case 14 -> forEach(eval(e, v, vars), x -> good(x) ? truths(eval(f, v, vars)) : one(false));
            case 15 -> forEach(eval(e, v, vars), x -> good(x) ? one(true) : truths(eval(f, v, vars)));
            case 17 -> forEach(eval(e, v, vars), x -> eval(good(x) ? f : t.parts.get(2), v, vars));
            case 18 -> attempt(e, f, v, vars);
            case 19 -> alternative(e, f, v, vars);
            case 20 -> forEach(eval(e, v, vars), x -> eval(f, v, with(vars, t.a, x)));
            case 22 -> made(() -> reduced(t, v, vars));
            case 29 -> forEach(eval(e, v, vars), PlainBench::range);
            case 31 -> limited(t.a, e, v, vars);
            case 32 -> forEach(eval(e, v, vars), i -> made(() -> has(v, i)));
            default -> forEach(eval(e, v, vars), x -> good(x) ? one(v) : of(List.of()));
        };
    }

    private static TreeMap<String, Object> object(String name, Object v) {
        TreeMap<String, Object> object = new TreeMap<>();
        object.put(name, v);
        return object;
    }

    private static Object[] with(Object[] vars, int a, Object x) {
        Object[] inner = vars.clone();
        inner[a] = x;
        return inner;
    }

    private static List<Object> values(Row row) {
        List<Object> all = new ArrayList<>();
        for (Object x = row.next(); x != END; x = row.next()) {
            all.add(x);
        }
        return all;
    }

    private static Row truths(Row row) {
        return forEach(row, y -> one(good(y)));
    }

    private static boolean holds(int a, int by) {
        return new boolean[] {by == 0, by != 0, by < 0, by <= 0, by > 0, by >= 0}[a];
    }

    private Row leaf(Tree t, Object v, Object[] vars) {
        List<Object> items = items(v);
        return switch (t.op) {
            case 0 -> one(v);
            case 1 -> made(() -> field(v, strings[t.a]));
            case 3 -> items == null ? made(PlainBench::wrongKind) : of(items);
            case 6 -> made(() -> checked(new BigDecimal(t.a).movePointLeft(3)));
            case 7 -> one(strings[t.a]);
            case 8 -> one(t.a == 0 ? null : (Object) (t.a == 2));
            case 10 -> one(new ArrayList<>());
            case 16 -> one(!good(v));
            case 21 -> one(vars[t.a]);
            case 23 -> made(() -> measure(v));
            case 24 -> made(() -> keys(v));
            case 25 -> of(List.of());
            case 26 -> made(() -> {
                throw new Fault(v);
            });
            case 27 -> made(() -> v instanceof List ? items.stream().sorted(PlainBench::compare)
                    .collect(ArrayList::new, ArrayList::add, ArrayList::addAll) : wrongKind());
            case 28 -> made(() -> v instanceof List ? sum(items) : wrongKind());
            case 30 -> all(v);
            default -> made(() -> v instanceof BigDecimal d ? checked(d.setScale(0, RoundingMode.FLOOR)) : wrongKind());
        };
    }

    private Row all(Object v) {
        List<Object> all = new ArrayList<>();
        for (Object[] part : parts(v, null)) {
            if (reading.allForEachPart && !all.isEmpty()) {
                begin();
            }
            all.add(part[0]);
        }
        return of(all);
    }

    private static Object measure(Object v) {
        if (v instanceof BigDecimal d) {
            return d.abs();
        }
        int length = v == null ? 0 : v instanceof String s ? s.length() : items(v) == null ? -1 : items(v).size();
        return length < 0 ? wrongKind() : new BigDecimal(length);
    }

    private static Object field(Object v, String name) {
        return v == null ? null : v instanceof TreeMap<?, ?> m ? m.get(name) : wrongKind();
    }

    private static Object keys(Object v) {
        List<Object> keys = new ArrayList<>();
        if (v instanceof TreeMap<?, ?> m) {
            keys.addAll(m.keySet());
        } else if (v instanceof List<?> l) {
            for (int k = 0; k < l.size(); k++) {
                keys.add(new BigDecimal(k));
            }
        } else {
            wrongKind();
        }
        return keys;
    }

    private static Object sum(List<Object> items) {
        Object sum = null;
        for (Object item : items) {
            sum = calc(0, sum, item);
        }
        return sum;
    }

    private static Object index(Object v, Object i) {
        if (v == null) {
            return null;
        }
        if (v instanceof List<?> l && i instanceof BigDecimal d) {
            int k = d.setScale(0, RoundingMode.FLOOR).intValueExact();
            k = k < 0 ? k + l.size() : k;
            return k >= 0 && k < l.size() ? l.get(k) : null;
        }
        return v instanceof TreeMap && i instanceof String s ? field(v, s) : wrongKind();
    }

    private static Object has(Object v, Object i) {
        if (v instanceof TreeMap<?, ?> m && i instanceof String s) {
            return m.containsKey(s);
        }
        if (v instanceof List<?> l && i instanceof BigDecimal d) {
            return d.signum() >= 0 && d.compareTo(new BigDecimal(l.size())) < 0;
        }
        return wrongKind();
    }

    private static Row range(Object n) {
        if (!(n instanceof BigDecimal d)) {
            return made(PlainBench::wrongKind);
        }
        BigDecimal[] k = {BigDecimal.ZERO};
        return () -> {
            BigDecimal now = k[0];
            k[0] = now.add(BigDecimal.ONE);
            return now.compareTo(d) < 0 ? now : END;
        };
    }

    private Row comma(Tree e, Tree f, Object v, Object[] vars) {
        Row first = eval(e, v, vars);
        Row[] second = {null};
        return () -> {
            Object x = second[0] == null ? first.next() : END;
            if (x != END) {
                return x;
            }
            if (second[0] == null) {
                second[0] = eval(f, v, vars);
            }
            return second[0].next();
        };
    }

    private Row attempt(Tree e, Tree f, Object v, Object[] vars) {
        Row[] now = {eval(e, v, vars)};
        boolean[] caught = {false};
        return () -> {
            try {
                return now[0].next();
            } catch (Fault fault) {
                if (caught[0]) {
                    throw fault;
                }
                caught[0] = true;
                now[0] = eval(f, fault.value, vars);
                return now[0].next();
            }
        };
    }

    private Row alternative(Tree e, Tree f, Object v, Object[] vars) {
        Row row = eval(e, v, vars);
        boolean[] some = {false};
        Row[] other = {null};
        return () -> {
            Object x = other[0] != null ? other[0].next() : nextGood(row);
            some[0] |= x != END;
            if (some[0] || other[0] != null) {
                return x;
            }
            other[0] = eval(f, v, vars);
            return other[0].next();
        };
    }

    private static Object nextGood(Row row) {
        try {
            Object x = row.next();
            while (x != END && !good(x)) {
                x = row.next();
            }
            return x;
        } catch (Fault f) {
            return END;
        }
    }

    private Row limited(int most, Tree e, Object v, Object[] vars) {
        if (most == 0) {
            return of(List.of());
        }
        Row row = eval(e, v, vars);
        int[] left = {most};
        return () -> left[0]-- > 0 ? row.next() : END;
    }

    private Object reduced(Tree t, Object v, Object[] vars) {
        Row early = reading.reduceRowFirst ? eval(t.parts.get(0), v, vars) : null;
        List<Object> firsts = values(eval(t.parts.get(1), v, vars));
        Object z = firsts.isEmpty() ? null : firsts.get(0);
        Row row = early != null ? early : eval(t.parts.get(0), v, vars);
        for (Object x = row.next(); x != END; x = row.next()) {
            List<Object> next = values(eval(t.parts.get(2), z, with(vars, t.a, x)));
            z = next.isEmpty() ? null : next.get(next.size() - 1);
        }
        return z;
    }

    private static Object calc(int a, Object x, Object y) {
        if (a == 0 && (x == null || y == null)) {
            return x == null ? y : x;
        }
        if (x instanceof BigDecimal d && y instanceof BigDecimal e) {
            return calcNumbers(a, d, e);
        }
        if (a == 0 && x instanceof String s && y instanceof String r) {
            return checked(s + r);
        }
        if (x instanceof List && y instanceof List && a < 2) {
            List<Object> left = items(x);
            if (a == 0) {
                left.addAll(items(y));
            } else {
                left.removeIf(item -> items(y).stream().anyMatch(other -> compare(item, other) == 0));
            }
            return checked(left);
        }
        if (a == 0 && x instanceof TreeMap<?, ?> m && y instanceof TreeMap<?, ?> n) {
            TreeMap<String, Object> both = new TreeMap<>();
            m.forEach((name, value) -> both.put((String) name, value));
            n.forEach((name, value) -> both.put((String) name, value));
            return checked(both);
        }
        return wrongKind();
    }

    private static Object calcNumbers(int a, BigDecimal x, BigDecimal y) {
        if (a < 3) {
            return checked(a == 0 ? x.add(y) : a == 1 ? x.subtract(y) : x.multiply(y));
        }
        BigDecimal divisor = y.setScale(0, RoundingMode.DOWN);
        if (divisor.signum() == 0) {
            throw new Fault(new BigDecimal(2));
        }
        return checked(x.setScale(0, RoundingMode.DOWN).remainder(divisor));
    }
}
