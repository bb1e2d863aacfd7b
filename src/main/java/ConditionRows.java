/**
 * Conditions of a business language: fields of texts and numbers, nodes that
 * ask about them, names for ranges of values, switches, and abbreviated rows
 * of relations that are unfolded into nodes.
 */
public final class ConditionRows {
    public static final int NONE = -1;

    private static final int NO_SUCH = -2;
    private static final int OUTSIDE = -4;
    private static final int ABOVE = 0;

    private static final int MOST_FIELDS = 40;
    private static final int MOST_NODES = 200;
    private static final int MOST_NAMES = 40;
    private static final int MOST_RANGES = 8;
    private static final int MOST_RELATIONS = 20;
    private static final int MOST_SCALE = 9;
    private static final int SWITCHES = 16;
    private static final int BYTES = 256;

    private static final int TEXT = 0;
    private static final int DIGITS = 1;
    private static final int BINARY = 2;

    private static final int MOST_TEXT = 32;
    private static final int MOST_DIGITS = 18;
    private static final int MOST_BINARY = 8;

    private static final int SPACE = 32;
    private static final int ZERO = 48;
    private static final int NINE = 57;
    private static final int NEGATIVE = 64;

    private static final int EQUAL = 0;
    private static final int LESS = 1;
    private static final int GREATER = 2;
    private static final int AT_MOST = 3;
    private static final int AT_LEAST = 4;
    private static final int UNEQUAL = 5;
    private static final int OF_CLASS = 6;
    private static final int OF_SIGN = 7;
    private static final int NAMED = 8;
    private static final int SWITCHED = 9;
    private static final int NOT = 10;
    private static final int AND = 11;
    private static final int OR = 12;

    private static final int NUMERIC = 0;
    private static final int ALPHABETIC = 1;
    private static final int UPPER = 2;
    private static final int LOWER = 3;

    private static final int WITH_AND = 0;
    private static final int WITH_OR = 1;

    private static final int UNTESTED = 0;
    private static final int FALSE = 1;
    private static final int TRUE = 2;
    private static final int FAULT = 3;

    private static final long[] TENS = {
        1L, 10L, 100L, 1000L, 10000L, 100000L, 1000000L, 10000000L, 100000000L, 1000000000L
    };

    private final boolean whole;
    private final Fields fields = new Fields();
    private final Weights weights = new Weights();
    private final Names names = new Names();
    private final Nodes nodes = new Nodes();
    private final Row row = new Row();
    private final Testing testing = new Testing();
    private final boolean[] switches = new boolean[SWITCHES];

    // Two texts are laid out here to be compared, so that no call makes rows.
    private final int[] leftText = new int[MOST_TEXT];
    private final int[] rightText = new int[MOST_TEXT];

    public ConditionRows(int order) {
        whole = order != 0;
    }

    public int field(int category, int size) {
        if (size < 1 || size > mostBytes(category)) {
            return OUTSIDE;
        }
        return fields.add(category, size);
    }

    public int octet(int field, int i, int b) {
        if (!fields.has(field)) {
            return NO_SUCH;
        }
        if (i < 0 || i >= fields.size[field]) {
            return OUTSIDE;
        }
        fields.bytes[field * MOST_TEXT + i] = b & (BYTES - 1);
        return 1;
    }

    public int scale(int field, int n) {
        if (!fields.hasNumber(field)) {
            return NO_SUCH;
        }
        if (n < 0 || n > MOST_SCALE) {
            return OUTSIDE;
        }
        int before = fields.scale[field];
        fields.scale[field] = n;
        return before;
    }

    public int weight(int b, int w) {
        if (!isByte(b) || !isByte(w)) {
            return OUTSIDE;
        }
        int before = weights.of[b];
        weights.of[b] = w;
        return before;
    }

    public int node(int op, int a, int b) {
        if (!isInside(op, a, b)) {
            return OUTSIDE;
        }
        if (!hasParts(op, a, b)) {
            return NO_SUCH;
        }
        return nodes.add(op, a, b);
    }

    public int name88(int field, long low, long high) {
        if (!fields.has(field)) {
            return NO_SUCH;
        }
        if (isAbove(field, low, high)) {
            return ABOVE;
        }
        return names.add(field, low, high);
    }

    public int range(int name, long low, long high) {
        if (!names.has(name)) {
            return NO_SUCH;
        }
        if (isAbove(names.field[name], low, high)) {
            return ABOVE;
        }
        return names.widen(name, low, high);
    }

    public int short0(int subject, int op, int object) {
        if (!fields.has(subject) || !fields.has(object)) {
            return NO_SUCH;
        }
        if (!isRelation(op)) {
            return OUTSIDE;
        }
        row.begin(subject, op, object);
        return 1;
    }

    public int more(int with, boolean not, int op, int object) {
        if (row.length == 0) {
            return OUTSIDE;
        }
        if (!fields.has(object)) {
            return NO_SUCH;
        }
        if (with != WITH_AND && with != WITH_OR) {
            return OUTSIDE;
        }
        if (op != NONE && !isRelation(op)) {
            return OUTSIDE;
        }
        if (row.length >= MOST_RELATIONS) {
            return NONE;
        }
        if (op == NONE) {
            row.append(with, row.carried, not, object);
        } else {
            row.append(with, not ? turned(op) : op, false, object);
        }
        return row.length;
    }

    public int unfold() {
        if (row.length == 0) {
            return 0;
        }
        if (row.nodesNeeded() > MOST_NODES - nodes.made) {
            return NONE;
        }
        int all = unfoldRow();
        row.length = 0;
        return all;
    }

    public boolean truth(int root) throws IllegalArgumentException, IllegalStateException {
        if (!nodes.has(root)) {
            throw new IllegalArgumentException("no such node");
        }
        int outcome = outcomeOf(root);
        if (outcome == FAULT) {
            throw new IllegalStateException("a bad field was tested");
        }
        return outcome == TRUE;
    }

    public int asked(int i) {
        if (i < 0 || i >= testing.noted) {
            return 0;
        }
        return testing.leaves[i];
    }

    public int switchOn(int n, boolean on) {
        if (!isSwitch(n)) {
            return OUTSIDE;
        }
        int before = switches[n] ? 1 : 0;
        switches[n] = on;
        return before;
    }

    public int compare(int a, int b) throws IllegalArgumentException, IllegalStateException {
        if (!fields.has(a) || !fields.has(b)) {
            throw new IllegalArgumentException("no such field");
        }
        if (fields.isBad(a) || fields.isBad(b)) {
            throw new IllegalStateException("a bad field was compared");
        }
        return compareFields(a, b);
    }

    public int count(int what) {
        switch (what) {
            case 0: return fields.made;
            case 1: return nodes.made;
            case 2: return names.made;
            case 3: return row.length;
            case 4: return testing.noted;
            case 5: return switchesOn();
            default: return NONE;
        }
    }

    private static int mostBytes(int category) {
        switch (category) {
            case TEXT: return MOST_TEXT;
            case DIGITS: return MOST_DIGITS;
            case BINARY: return MOST_BINARY;
            default: return 0;
        }
    }

    private static boolean isByte(int b) {
        return b >= 0 && b < BYTES;
    }

    private static boolean isSwitch(int n) {
        return n >= 0 && n < SWITCHES;
    }

    private static boolean isRelation(int op) {
        return op >= EQUAL && op <= UNEQUAL;
    }

    // The ops stand so that each one and the one it is turned to make 5.
    private static int turned(int op) {
        return UNEQUAL - op;
    }

    private static boolean isInside(int op, int a, int b) {
        switch (op) {
            case OF_CLASS: return b >= NUMERIC && b <= LOWER;
            case OF_SIGN: return b >= -1 && b <= 1;
            case SWITCHED: return isSwitch(a);
            default: return op >= EQUAL && op <= OR;
        }
    }

    private boolean hasParts(int op, int a, int b) {
        switch (op) {
            case OF_CLASS: return fields.has(a);
            case OF_SIGN: return fields.hasNumber(a);
            case NAMED: return names.has(a);
            case SWITCHED: return true;
            case NOT: return nodes.has(a);
            case AND:
            case OR: return nodes.has(a) && nodes.has(b);
            default: return fields.has(a) && fields.has(b);
        }
    }

    private boolean isAbove(int field, long low, long high) {
        return fields.isText(field) ? isBelowUnsigned(high, low) : low > high;
    }

    private static boolean isBelowUnsigned(long a, long b) {
        return (a ^ Long.MIN_VALUE) < (b ^ Long.MIN_VALUE);
    }

    private int switchesOn() {
        int on = 0;
        for (int n = 0; n < SWITCHES; n++) {
            if (switches[n]) {
                on++;
            }
        }
        return on;
    }

    private int unfoldRow() {
        int groups = 0;
        int group = 0;
        for (int i = 0; i < row.length; i++) {
            if (i > 0 && row.with[i] == WITH_OR) {
                groups = joined(OR, groups, group);
                group = 0;
            }
            group = joined(AND, group, relationNode(i));
        }
        return joined(OR, groups, group);
    }

    private int relationNode(int i) {
        int relation = nodes.add(row.op[i], row.subject, row.object[i]);
        return row.negated[i] ? nodes.add(NOT, relation, 0) : relation;
    }

    private int joined(int op, int left, int right) {
        return left == 0 ? right : nodes.add(op, left, right);
    }

    // A chain of nodes can be 200 deep, so those that wait stand in a row of
    // our own and not on the machine's stack. A node's parts are older than
    // it: each node is opened once and closed once at most.
    private int outcomeOf(int root) {
        testing.begin();
        testing.open(root);
        for (int step = 0; step < 2 * MOST_NODES && testing.depth > 0; step++) {
            int node = testing.waiting[testing.depth - 1];
            int part = partToTest(node);
            if (part != 0) {
                testing.open(part);
            } else {
                int outcome = nodes.op[node] < NOT ? leafOutcome(node) : joinedOutcome(node);
                if (outcome == FAULT) {
                    return FAULT;
                }
                testing.close(outcome);
            }
        }
        return testing.outcome[root];
    }

    private int partToTest(int node) {
        if (nodes.op[node] < NOT) {
            return 0;
        }
        int a = nodes.a[node];
        if (testing.outcome[a] == UNTESTED) {
            return a;
        }
        if (nodes.op[node] == NOT) {
            return 0;
        }
        int b = nodes.b[node];
        if (testing.outcome[b] != UNTESTED) {
            return 0;
        }
        return whole || testing.outcome[a] != settledBy(nodes.op[node]) ? b : 0;
    }

    private static int settledBy(int op) {
        return op == AND ? FALSE : TRUE;
    }

    private int joinedOutcome(int node) {
        int op = nodes.op[node];
        int first = testing.outcome[nodes.a[node]];
        if (op == NOT) {
            return asOutcome(first == FALSE);
        }
        return first == settledBy(op) ? first : testing.outcome[nodes.b[node]];
    }

    private int leafOutcome(int node) {
        testing.note(node);
        int a = nodes.a[node];
        int b = nodes.b[node];
        switch (nodes.op[node]) {
            case OF_CLASS: return asOutcome(fields.isOfClass(a, b));
            case OF_SIGN: return fields.isBad(a) ? FAULT : asOutcome(Long.compare(fields.value(a), 0L) == b);
            case NAMED: return fields.isBad(names.field[a]) ? FAULT : asOutcome(holds(a));
            case SWITCHED: return asOutcome(switches[a]);
            default: return relationOutcome(nodes.op[node], a, b);
        }
    }

    private static int asOutcome(boolean holds) {
        return holds ? TRUE : FALSE;
    }

    private int relationOutcome(int op, int a, int b) {
        if (fields.isBad(a) || fields.isBad(b)) {
            return FAULT;
        }
        int order = compareFields(a, b);
        switch (op) {
            case EQUAL: return asOutcome(order == 0);
            case LESS: return asOutcome(order < 0);
            case GREATER: return asOutcome(order > 0);
            case AT_MOST: return asOutcome(order <= 0);
            case AT_LEAST: return asOutcome(order >= 0);
            default: return asOutcome(order != 0);
        }
    }

    private boolean holds(int name) {
        int field = names.field[name];
        return fields.isText(field)
            ? names.hasUnsigned(name, fields.firstBytes(field))
            : names.hasSigned(name, fields.value(field));
    }

    private int compareFields(int a, int b) {
        if (!fields.isText(a) && !fields.isText(b)) {
            return fields.compareNumbers(a, b);
        }
        fields.spell(a, leftText);
        fields.spell(b, rightText);
        return weights.compareTexts(leftText, rightText);
    }

    /** The fields, numbered from 0 on; field n's bytes begin at n * MOST_TEXT. */
    private static final class Fields {
        private final int[] category = new int[MOST_FIELDS];
        private final int[] size = new int[MOST_FIELDS];
        private final int[] scale = new int[MOST_FIELDS];
        private final int[] bytes = new int[MOST_FIELDS * MOST_TEXT];
        private int made;

        boolean has(int field) {
            return field >= 0 && field < made;
        }

        boolean isText(int field) {
            return category[field] == TEXT;
        }

        boolean hasNumber(int field) {
            return has(field) && !isText(field);
        }

        int add(int kind, int length) {
            if (made >= MOST_FIELDS) {
                return NONE;
            }
            int field = made++;
            category[field] = kind;
            size[field] = length;
            for (int i = 0; i < length; i++) {
                bytes[field * MOST_TEXT + i] = firstByte(kind);
            }
            return field;
        }

        private static int firstByte(int kind) {
            switch (kind) {
                case TEXT: return SPACE;
                case DIGITS: return ZERO;
                default: return 0;
            }
        }

        private static boolean isDigit(int b) {
            return b >= ZERO && b <= NINE;
        }

        boolean isBad(int field) {
            if (category[field] != DIGITS) {
                return false;
            }
            int last = field * MOST_TEXT + size[field] - 1;
            for (int at = field * MOST_TEXT; at < last; at++) {
                if (!isDigit(bytes[at])) {
                    return true;
                }
            }
            return !isDigit(bytes[last]) && !isDigit(bytes[last] - NEGATIVE);
        }

        boolean isOfClass(int field, int kind) {
            if (kind == NUMERIC && category[field] != TEXT) {
                return !isBad(field);
            }
            int end = field * MOST_TEXT + size[field];
            for (int at = field * MOST_TEXT; at < end; at++) {
                if (!fits(bytes[at], kind)) {
                    return false;
                }
            }
            return true;
        }

        private static boolean fits(int b, int kind) {
            boolean upper = b >= 'A' && b <= 'Z' || b == SPACE;
            boolean lower = b >= 'a' && b <= 'z' || b == SPACE;
            switch (kind) {
                case NUMERIC: return isDigit(b);
                case ALPHABETIC: return upper || lower;
                case UPPER: return upper;
                default: return lower;
            }
        }

        /** A number that is not bad, without its point. */
        long value(int field) {
            return category[field] == DIGITS ? digitsValue(field) : binaryValue(field);
        }

        private long digitsValue(int field) {
            int last = field * MOST_TEXT + size[field] - 1;
            long value = 0;
            for (int at = field * MOST_TEXT; at < last; at++) {
                value = value * 10 + (bytes[at] - ZERO);
            }
            if (bytes[last] > NINE) {
                return -(value * 10 + (bytes[last] - NEGATIVE - ZERO));
            }
            return value * 10 + (bytes[last] - ZERO);
        }

        private long binaryValue(int field) {
            int start = field * MOST_TEXT;
            long value = bytes[start] >= BYTES / 2 ? -1 : 0;
            for (int at = start; at < start + size[field]; at++) {
                value = value << 8 | bytes[at];
            }
            return value;
        }

        /** A text's first 8 bytes as a number without sign. */
        long firstBytes(int field) {
            long value = 0;
            for (int i = 0; i < 8; i++) {
                int b = i < size[field] ? bytes[field * MOST_TEXT + i] : SPACE;
                value = value << 8 | b;
            }
            return value;
        }

        int compareNumbers(int a, int b) {
            int decimals = scale[a] - scale[b];
            return decimals >= 0
                ? compareScaled(value(a), value(b), decimals)
                : -compareScaled(value(b), value(a), -decimals);
        }

        // The coarse number times its unit can be too big for a long, so the
        // fine one is divided instead.
        private static int compareScaled(long fine, long coarse, int decimals) {
            long unit = TENS[decimals];
            long quotient = Math.floorDiv(fine, unit);
            if (quotient != coarse) {
                return quotient < coarse ? -1 : 1;
            }
            return Math.floorMod(fine, unit) == 0 ? 0 : 1;
        }

        /** Lays a text, or a number's digits, out in a row, filled with spaces. */
        void spell(int field, int[] text) {
            int length = category[field] == BINARY
                ? spellDecimals(binaryValue(field), text)
                : spellBytes(field, text);
            for (int i = length; i < MOST_TEXT; i++) {
                text[i] = SPACE;
            }
        }

        private int spellBytes(int field, int[] text) {
            int length = size[field];
            for (int i = 0; i < length; i++) {
                text[i] = bytes[field * MOST_TEXT + i];
            }
            if (category[field] == DIGITS && text[length - 1] >= NEGATIVE + ZERO) {
                text[length - 1] -= NEGATIVE;
            }
            return length;
        }

        // Works below 0, where the lowest long has room too.
        private static int spellDecimals(long value, int[] text) {
            long below = value > 0 ? -value : value;
            int length = 1;
            for (long rest = below / 10; rest != 0 && length < MOST_TEXT; rest /= 10) {
                length++;
            }
            for (int i = length - 1; i >= 0; i--) {
                text[i] = ZERO - (int) (below % 10);
                below /= 10;
            }
            return length;
        }
    }

    /** The weights of bytes, by which texts are compared. */
    private static final class Weights {
        private final int[] of = new int[BYTES];

        Weights() {
            for (int b = 0; b < BYTES; b++) {
                of[b] = b;
            }
        }

        int compareTexts(int[] left, int[] right) {
            for (int i = 0; i < MOST_TEXT; i++) {
                int order = Integer.compare(of[left[i]], of[right[i]]);
                if (order != 0) {
                    return order;
                }
            }
            return 0;
        }
    }

    /** The names, numbered from 1 on; name n's ranges begin at n * MOST_RANGES. */
    private static final class Names {
        private final int[] field = new int[MOST_NAMES + 1];
        private final int[] ranges = new int[MOST_NAMES + 1];
        private final long[] low = new long[(MOST_NAMES + 1) * MOST_RANGES];
        private final long[] high = new long[(MOST_NAMES + 1) * MOST_RANGES];
        private int made;

        boolean has(int name) {
            return name >= 1 && name <= made;
        }

        int add(int ofField, long from, long to) {
            if (made >= MOST_NAMES) {
                return NONE;
            }
            made++;
            field[made] = ofField;
            widen(made, from, to);
            return made;
        }

        int widen(int name, long from, long to) {
            if (ranges[name] >= MOST_RANGES) {
                return NONE;
            }
            int at = name * MOST_RANGES + ranges[name];
            low[at] = from;
            high[at] = to;
            ranges[name]++;
            return ranges[name];
        }

        boolean hasSigned(int name, long value) {
            int end = name * MOST_RANGES + ranges[name];
            for (int at = name * MOST_RANGES; at < end; at++) {
                if (low[at] <= value && value <= high[at]) {
                    return true;
                }
            }
            return false;
        }

        boolean hasUnsigned(int name, long value) {
            int end = name * MOST_RANGES + ranges[name];
            for (int at = name * MOST_RANGES; at < end; at++) {
                if (!isBelowUnsigned(value, low[at]) && !isBelowUnsigned(high[at], value)) {
                    return true;
                }
            }
            return false;
        }
    }

    /** The nodes, numbered from 1 on. */
    private static final class Nodes {
        private final int[] op = new int[MOST_NODES + 1];
        private final int[] a = new int[MOST_NODES + 1];
        private final int[] b = new int[MOST_NODES + 1];
        private int made;

        boolean has(int node) {
            return node >= 1 && node <= made;
        }

        int add(int kind, int first, int second) {
            if (made >= MOST_NODES) {
                return NONE;
            }
            made++;
            op[made] = kind;
            a[made] = first;
            b[made] = second;
            return made;
        }
    }

    /** The abbreviated row; there is none while its length is 0. */
    private static final class Row {
        private final int[] with = new int[MOST_RELATIONS];
        private final int[] op = new int[MOST_RELATIONS];
        private final boolean[] negated = new boolean[MOST_RELATIONS];
        private final int[] object = new int[MOST_RELATIONS];
        private int subject;
        private int carried;
        private int length;

        void begin(int about, int relation, int to) {
            length = 0;
            subject = about;
            append(WITH_AND, relation, false, to);
        }

        void append(int joinedWith, int relation, boolean not, int to) {
            if (length >= MOST_RELATIONS) {
                return;
            }
            with[length] = joinedWith;
            op[length] = relation;
            negated[length] = not;
            object[length] = to;
            carried = relation;
            length++;
        }

        int nodesNeeded() {
            int needed = 2 * length - 1;
            for (int i = 0; i < length; i++) {
                if (negated[i]) {
                    needed++;
                }
            }
            return needed;
        }
    }

    /** The latest test: its leaves, the outcomes so far, the nodes that wait for it. */
    private static final class Testing {
        private final int[] outcome = new int[MOST_NODES + 1];
        private final int[] leaves = new int[MOST_NODES];
        private final int[] waiting = new int[MOST_NODES];
        private int noted;
        private int depth;

        void begin() {
            for (int node = 0; node <= MOST_NODES; node++) {
                outcome[node] = UNTESTED;
            }
            noted = 0;
            depth = 0;
        }

        void open(int node) {
            if (depth < MOST_NODES) {
                waiting[depth] = node;
                depth++;
            }
        }

        void close(int result) {
            if (depth > 0) {
                depth--;
                outcome[waiting[depth]] = result;
            }
        }

        void note(int leaf) {
            if (noted < MOST_NODES) {
                leaves[noted] = leaf;
                noted++;
            }
        }
    }
}
