import java.math.BigDecimal;
import java.math.BigInteger;
import java.util.ArrayList;
import java.util.HashMap;
import java.util.List;
import java.util.Map;

/**
 * Long runs of calls, the same ones each time, on an object and on a plain
 * model of the document that is written another way: with big numbers, lists
 * and recursion.
 */
final class ModelRunsTest {
    private static final int RUNS = 3000;
    // Nothing is promised behind an object's 512th call.
    private static final int CALLS = 512;
    private static final int LAST_COUNTS = 8;

    /** Well mixed numbers, always the same ones for the same seed. */
    private static final class Mix {
        private long state;

        Mix(int seed) {
            state = seed * 0xD1342543DE82EF95L;
        }

        long nextLong() {
            state += 0x9E3779B97F4A7C15L;
            long mixed = (state ^ state >>> 30) * 0xBF58476D1CE4E5B9L;
            mixed = (mixed ^ mixed >>> 27) * 0x94D049BB133111EBL;
            return mixed ^ mixed >>> 31;
        }

        int nextInt() {
            return (int) nextLong();
        }

        int nextInt(int bound) {
            return (int) Long.remainderUnsigned(nextLong(), bound);
        }

        boolean nextBoolean() {
            return nextLong() < 0;
        }
    }

    private static final class Field {
        int category;
        int[] bytes;
        int scale;

        boolean bad() {
            if (category != 1) {
                return false;
            }
            for (int i = 0; i < bytes.length; i++) {
                boolean digit = bytes[i] >= 48 && bytes[i] <= 57;
                boolean negative = i == bytes.length - 1 && bytes[i] >= 112 && bytes[i] <= 121;
                if (!digit && !negative) {
                    return true;
                }
            }
            return false;
        }

        String digits() {
            StringBuilder text = new StringBuilder();
            for (int b : bytes) {
                text.append((char) (b >= 112 ? b - 64 : b));
            }
            return text.toString();
        }

        BigInteger whole() {
            if (category == 1) {
                BigInteger value = new BigInteger(digits());
                return bytes[bytes.length - 1] >= 112 ? value.negate() : value;
            }
            byte[] raw = new byte[bytes.length];
            for (int i = 0; i < raw.length; i++) {
                raw[i] = (byte) bytes[i];
            }
            return new BigInteger(raw);
        }

        String text() {
            if (category == 0) {
                StringBuilder text = new StringBuilder();
                for (int b : bytes) {
                    text.append((char) b);
                }
                return text.toString();
            }
            return category == 1 ? digits() : whole().abs().toString();
        }
    }

    private static final class Name {
        Field field;
        List<BigInteger[]> ranges = new ArrayList<>();
    }

    private static final class Fault extends Exception {
        private static final long serialVersionUID = 1L;
    }

    private static final class Model {
        final boolean whole;
        final List<Field> fields = new ArrayList<>();
        final List<int[]> nodes = new ArrayList<>();
        final List<Name> names = new ArrayList<>();
        final int[] weights = new int[256];
        final boolean[] on = new boolean[16];
        List<int[]> row = new ArrayList<>();
        int subject;
        int carried;
        List<Integer> leaves = new ArrayList<>();
        Map<Integer, Boolean> tested = new HashMap<>();

        Model(int order) {
            whole = order != 0;
            nodes.add(null);
            names.add(null);
            for (int b = 0; b < 256; b++) {
                weights[b] = b;
            }
        }

        boolean isField(int n) {
            return n >= 0 && n < fields.size();
        }

        boolean isNode(int n) {
            return n >= 1 && n < nodes.size();
        }

        boolean isName(int n) {
            return n >= 1 && n < names.size();
        }

        int field(int category, int size) {
            int most = category == 0 ? 32 : category == 1 ? 18 : category == 2 ? 8 : 0;
            if (size < 1 || size > most) {
                return -4;
            }
            if (fields.size() == 40) {
                return -1;
            }
            Field field = new Field();
            field.category = category;
            field.bytes = new int[size];
            java.util.Arrays.fill(field.bytes, new int[] {32, 48, 0}[category]);
            fields.add(field);
            return fields.size() - 1;
        }

        int octet(int n, int i, int b) {
            if (!isField(n)) {
                return -2;
            }
            if (i < 0 || i >= fields.get(n).bytes.length) {
                return -4;
            }
            fields.get(n).bytes[i] = Math.floorMod(b, 256);
            return 1;
        }

        int scale(int n, int to) {
            if (!isField(n) || fields.get(n).category == 0) {
                return -2;
            }
            if (to < 0 || to > 9) {
                return -4;
            }
            int was = fields.get(n).scale;
            fields.get(n).scale = to;
            return was;
        }

        int weight(int b, int w) {
            if (b < 0 || b > 255 || w < 0 || w > 255) {
                return -4;
            }
            int was = weights[b];
            weights[b] = w;
            return was;
        }

        int node(int op, int a, int b) {
            if (op < 0 || op > 12 || op == 6 && (b < 0 || b > 3) || op == 7 && (b < -1 || b > 1)
                || op == 9 && (a < 0 || a > 15)) {
                return -4;
            }
            if (op <= 7 && !isField(a) || op <= 5 && !isField(b) || op == 7 && fields.get(a).category == 0
                || op == 8 && !isName(a) || op >= 10 && !isNode(a) || op >= 11 && !isNode(b)) {
                return -2;
            }
            return nodes.size() > 200 ? -1 : made(op, a, b);
        }

        int made(int op, int a, int b) {
            nodes.add(new int[] {op, a, b});
            return nodes.size() - 1;
        }

        BigInteger end(Field field, long value) {
            return field.category == 0 ? new BigInteger(Long.toUnsignedString(value)) : BigInteger.valueOf(value);
        }

        int name88(int n, long low, long high) {
            if (!isField(n)) {
                return -2;
            }
            Name name = new Name();
            name.field = fields.get(n);
            if (end(name.field, low).compareTo(end(name.field, high)) > 0) {
                return 0;
            }
            if (names.size() > 40) {
                return -1;
            }
            name.ranges.add(new BigInteger[] {end(name.field, low), end(name.field, high)});
            names.add(name);
            return names.size() - 1;
        }

        int range(int n, long low, long high) {
            if (!isName(n)) {
                return -2;
            }
            Name name = names.get(n);
            if (end(name.field, low).compareTo(end(name.field, high)) > 0) {
                return 0;
            }
            if (name.ranges.size() == 8) {
                return -1;
            }
            name.ranges.add(new BigInteger[] {end(name.field, low), end(name.field, high)});
            return name.ranges.size();
        }

        int short0(int about, int op, int object) {
            if (!isField(about) || !isField(object)) {
                return -2;
            }
            if (op < 0 || op > 5) {
                return -4;
            }
            row = new ArrayList<>();
            subject = about;
            carried = op;
            row.add(new int[] {-1, 0, op, object});
            return 1;
        }

        int more(int with, boolean not, int op, int object) {
            if (row.isEmpty()) {
                return -4;
            }
            if (!isField(object)) {
                return -2;
            }
            if (with < 0 || with > 1 || op < -1 || op > 5) {
                return -4;
            }
            if (row.size() == 20) {
                return -1;
            }
            if (op >= 0) {
                carried = not ? new int[] {5, 4, 3, 2, 1, 0}[op] : op;
            }
            row.add(new int[] {with, not && op < 0 ? 1 : 0, carried, object});
            return row.size();
        }

        int unfold() {
            if (row.isEmpty()) {
                return 0;
            }
            int before = nodes.size();
            int all = alternatives();
            if (nodes.size() > 201) {
                nodes.subList(before, nodes.size()).clear();
                return -1;
            }
            row = new ArrayList<>();
            return all;
        }

        int alternatives() {
            List<List<int[]>> groups = new ArrayList<>();
            for (int[] relation : row) {
                if (relation[0] != 0) {
                    groups.add(new ArrayList<>());
                }
                groups.get(groups.size() - 1).add(relation);
            }
            int all = group(groups.get(0));
            for (List<int[]> more : groups.subList(1, groups.size())) {
                int right = group(more);
                all = made(12, all, right);
            }
            return all;
        }

        int group(List<int[]> relations) {
            int all = relation(relations.get(0));
            for (int[] more : relations.subList(1, relations.size())) {
                int right = relation(more);
                all = made(11, all, right);
            }
            return all;
        }

        int relation(int[] relation) {
            int node = made(relation[2], subject, relation[3]);
            return relation[1] == 1 ? made(10, node, 0) : node;
        }

        int truth(int root) {
            if (!isNode(root)) {
                return -101;
            }
            leaves = new ArrayList<>();
            tested = new HashMap<>();
            try {
                return test(root) ? 1 : 0;
            } catch (Fault e) {
                return -102;
            }
        }

        boolean test(int n) throws Fault {
            Boolean known = tested.get(n);
            if (known != null) {
                return known;
            }
            int[] node = nodes.get(n);
            boolean result;
            if (node[0] == 10) {
                result = !test(node[1]);
            } else if (node[0] == 11) {
                boolean a = test(node[1]);
                result = (whole || a) && test(node[2]) && a;
            } else if (node[0] == 12) {
                boolean a = test(node[1]);
                result = (whole || !a) && test(node[2]) || a;
            } else {
                leaves.add(n);
                result = leaf(node[0], node[1], node[2]);
            }
            tested.put(n, result);
            return result;
        }

        boolean leaf(int op, int a, int b) throws Fault {
            if (op == 6) {
                return ofClass(fields.get(a), b);
            }
            if (op == 7) {
                return whole(fields.get(a)).signum() == b;
            }
            if (op == 8) {
                return holds(names.get(a));
            }
            if (op == 9) {
                return on[a];
            }
            int order = order(fields.get(a), fields.get(b));
            return op == 0 ? order == 0 : op == 1 ? order < 0 : op == 2 ? order > 0
                : op == 3 ? order <= 0 : op == 4 ? order >= 0 : order != 0;
        }

        boolean ofClass(Field field, int kind) {
            if (kind == 0 && field.category > 0) {
                return !field.bad();
            }
            String[] patterns = {"[0-9]+", "[A-Za-z ]+", "[A-Z ]+", "[a-z ]+"};
            StringBuilder text = new StringBuilder();
            for (int b : field.bytes) {
                text.append((char) b);
            }
            return text.toString().matches(patterns[kind]);
        }

        BigInteger whole(Field field) throws Fault {
            if (field.bad()) {
                throw new Fault();
            }
            return field.whole();
        }

        boolean holds(Name name) throws Fault {
            BigInteger value;
            if (name.field.category == 0) {
                value = BigInteger.ZERO;
                String text = (name.field.text() + "        ").substring(0, 8);
                for (char c : text.toCharArray()) {
                    value = value.shiftLeft(8).add(BigInteger.valueOf(c));
                }
            } else {
                value = whole(name.field);
            }
            for (BigInteger[] range : name.ranges) {
                if (range[0].compareTo(value) <= 0 && value.compareTo(range[1]) <= 0) {
                    return true;
                }
            }
            return false;
        }

        int order(Field a, Field b) throws Fault {
            if (a.bad() || b.bad()) {
                throw new Fault();
            }
            if (a.category > 0 && b.category > 0) {
                return new BigDecimal(a.whole(), a.scale).compareTo(new BigDecimal(b.whole(), b.scale));
            }
            String left = a.text();
            String right = b.text();
            for (int i = 0; i < Math.max(left.length(), right.length()); i++) {
                int order = Integer.compare(weights[i < left.length() ? left.charAt(i) : 32],
                    weights[i < right.length() ? right.charAt(i) : 32]);
                if (order != 0) {
                    return order;
                }
            }
            return 0;
        }

        int compare(int a, int b) {
            if (!isField(a) || !isField(b)) {
                return -101;
            }
            try {
                return order(fields.get(a), fields.get(b));
            } catch (Fault e) {
                return -102;
            }
        }

        int count(int what) {
            int switches = 0;
            for (boolean one : on) {
                switches += one ? 1 : 0;
            }
            int[] counts = {fields.size(), nodes.size() - 1, names.size() - 1, row.size(), leaves.size(), switches};
            return what < 0 || what > 5 ? -1 : counts[what];
        }
    }

    private final Mix mix;
    private final Model model;
    private final ConditionRows rows;
    private final String run;
    private int calls = 0;

    private ModelRunsTest(int seed) {
        mix = new Mix(seed);
        int order = seed % 2 * (mix.nextInt(5) - 2);
        model = new Model(order);
        rows = new ConditionRows(order);
        run = "run " + seed + ": ";
    }

    public static void main(String[] args) {
        for (int seed = 0; seed < RUNS; seed++) {
            ModelRunsTest test = new ModelRunsTest(seed);
            while (test.calls < CALLS - LAST_COUNTS) {
                test.oneCall();
            }
            for (int what = -1; what < LAST_COUNTS - 1; what++) {
                test.due("count(" + what + ")", test.rows.count(what), test.model.count(what));
            }
        }
        Check.end();
    }

    // Mostly from 0 to most - 1; now and then just outside, or far outside.
    private int about(int most) {
        int kind = mix.nextInt(40);
        if (kind == 0) {
            return new int[] {Integer.MIN_VALUE, Integer.MAX_VALUE, -2, 1000}[mix.nextInt(4)];
        }
        return kind == 1 ? -1 : kind == 2 ? most : mix.nextInt(Math.max(1, most));
    }

    private int someField() {
        return about(model.fields.size());
    }

    private int someNode() {
        int made = model.nodes.size();
        return mix.nextBoolean() ? about(made) : made - 1 - mix.nextInt(Math.min(made, 8));
    }

    private int someByte(int category) {
        if (mix.nextInt(12) == 0) {
            return mix.nextInt();
        }
        if (category == 0) {
            return "AZaz 0159@[`{\u00e9".charAt(mix.nextInt(14));
        }
        return category == 1 ? 48 + mix.nextInt(10) : mix.nextInt(3) - 1;
    }

    private long someEnd(int field) {
        if (model.isField(field) && mix.nextInt(4) > 0 && !model.fields.get(field).bad()) {
            Field of = model.fields.get(field);
            if (of.category > 0) {
                return of.whole().longValue() + mix.nextInt(5) - 2;
            }
            long value = 0;
            for (char c : (of.text() + "        ").substring(0, 8).toCharArray()) {
                value = value << 8 | c;
            }
            return value + mix.nextInt(5) - 2;
        }
        return mix.nextInt(3) == 0 ? mix.nextLong() : mix.nextInt(21) - 10;
    }

    private void oneCall() {
        int kind = mix.nextInt(100);
        if (calls < 12 || kind < 3) {
            field();
        } else if (kind < 25) {
            octet();
        } else if (kind < 28) {
            int field = someField();
            int n = about(10);
            due("scale(" + field + ", " + n + ")", rows.scale(field, n), model.scale(field, n));
        } else if (kind < 30) {
            int b = mix.nextBoolean() ? about(256) : someByte(0);
            int w = about(256);
            due("weight(" + b + ", " + w + ")", rows.weight(b, w), model.weight(b, w));
        } else if (kind < 48) {
            node();
        } else if (kind < 55) {
            names();
        } else if (kind < 68) {
            row();
        } else if (kind < 85) {
            truth();
        } else if (kind < 88) {
            int n = about(16);
            boolean on = mix.nextBoolean();
            int was = n < 0 || n > 15 ? -4 : model.on[n] ? 1 : 0;
            due("switchOn(" + n + ", " + on + ")", rows.switchOn(n, on), was);
            if (was != -4) {
                model.on[n] = on;
            }
        } else if (kind < 98) {
            compare(someField(), someField());
        } else {
            int what = about(6);
            due("count(" + what + ")", rows.count(what), model.count(what));
        }
    }

    private void due(String call, int got, int want) {
        calls++;
        Check.due(run + call, got, want);
    }

    private void field() {
        int category = about(3);
        int size = mix.nextBoolean() ? 1 + mix.nextInt(4) : about(category == 0 ? 33 : category == 1 ? 19 : 9);
        due("field(" + category + ", " + size + ")", rows.field(category, size), model.field(category, size));
    }

    private void octet() {
        int field = someField();
        Field of = model.isField(field) ? model.fields.get(field) : null;
        int i = about(of == null ? 3 : of.bytes.length);
        int b = someByte(of == null ? 0 : of.category);
        if (of != null && of.category == 1 && i == of.bytes.length - 1 && mix.nextInt(3) == 0) {
            b = 111 + mix.nextInt(12);
        }
        due("octet(" + field + ", " + i + ", " + b + ")", rows.octet(field, i, b), model.octet(field, i, b));
    }

    private void node() {
        int op = about(13);
        int a = op <= 7 ? someField() : op == 8 ? about(model.names.size()) : op == 9 ? about(16) : someNode();
        int b = op <= 5 ? someField() : op == 6 ? about(4) : op == 7 ? about(3) - 1 : someNode();
        due("node(" + op + ", " + a + ", " + b + ")", rows.node(op, a, b), model.node(op, a, b));
    }

    private void names() {
        if (mix.nextBoolean()) {
            int field = someField();
            long low = someEnd(field);
            long high = mix.nextBoolean() ? low + mix.nextInt(4) : someEnd(field);
            due("name88(" + field + ", " + low + ", " + high + ")", rows.name88(field, low, high),
                model.name88(field, low, high));
        } else {
            int name = about(Math.min(4, model.names.size()));
            int field = model.isName(name) ? model.fields.indexOf(model.names.get(name).field) : -1;
            long low = someEnd(field);
            long high = mix.nextBoolean() ? low + mix.nextInt(4) : someEnd(field);
            due("range(" + name + ", " + low + ", " + high + ")", rows.range(name, low, high),
                model.range(name, low, high));
        }
    }

    private void row() {
        int kind = mix.nextInt(20);
        int op = about(6);
        int object = someField();
        if (kind < 2) {
            int subject = someField();
            due("short0(" + subject + ", " + op + ", " + object + ")", rows.short0(subject, op, object),
                model.short0(subject, op, object));
        } else if (kind < 18) {
            int with = about(2);
            boolean not = mix.nextBoolean();
            op = mix.nextBoolean() ? -1 : op;
            due("more(" + with + ", " + not + ", " + op + ", " + object + ")", rows.more(with, not, op, object),
                model.more(with, not, op, object));
        } else {
            due("unfold()", rows.unfold(), model.unfold());
        }
    }

    private void truth() {
        int root = someNode();
        int got;
        try {
            got = rows.truth(root) ? 1 : 0;
        } catch (IllegalArgumentException e) {
            got = -101;
        } catch (IllegalStateException e) {
            got = -102;
        }
        due("truth(" + root + ")", got, model.truth(root));
        for (int i = -1; i <= model.leaves.size() && calls < CALLS - LAST_COUNTS; i++) {
            int leaf = i >= 0 && i < model.leaves.size() ? model.leaves.get(i) : 0;
            due("asked(" + i + ") after truth(" + root + ")", rows.asked(i), leaf);
        }
    }

    private void compare(int a, int b) {
        int got;
        try {
            got = rows.compare(a, b);
        } catch (IllegalArgumentException e) {
            got = -101;
        } catch (IllegalStateException e) {
            got = -102;
        }
        due("compare(" + a + ", " + b + ")", got, model.compare(a, b));
    }
}
