/** The edges of Terms' NAMES and of promises 7 and 8. */
final class NameEdgesTest {
    private static final int LEAST = Integer.MIN_VALUE;
    private static final int MOST = Integer.MAX_VALUE;
    private static final long LOWEST = Long.MIN_VALUE;
    private static final long HIGHEST = Long.MAX_VALUE;
    private static final int TEXT = 0;
    private static final int DIGITS = 1;
    private static final int BINARY = 2;

    public static void main(String[] args) {
        missing();
        lowAboveHigh();
        lowAboveHighOfARange();
        fullNames();
        fullRanges();
        bothEnds();
        endsOfAllNumbers();
        endsOfAllTexts();
        gaps();
        wholeNumbers();
        fillingOfTexts();
        firstEightBytes();
        bytesNotWeights();
        oneFieldManyNames();
        badFields();
        Check.end();
    }

    private static ConditionRows prepared() {
        ConditionRows rows = new ConditionRows(0);
        rows.field(0, 8);
        rows.field(1, 18);
        rows.field(2, 8);
        return rows;
    }

    private static boolean holds(ConditionRows rows, int name) {
        return rows.truth(rows.node(8, name, 0));
    }

    private static void put(ConditionRows rows, int field, long value) {
        for (int i = 0; i < 8; i++) {
            rows.octet(field, i, (int) (value >> 56 - 8 * i));
        }
    }

    private static void missing() {
        ConditionRows empty = new ConditionRows(0);
        Check.due("no fields at all", empty.name88(0, 1, 2), -2);
        Check.due("no names at all", empty.range(1, 1, 2), -2);
        Check.due("name 0", empty.range(0, 1, 2), -2);
        ConditionRows rows = prepared();
        for (int none : new int[] {LEAST, -1, 3, 39, 40, MOST}) {
            Check.due("a name of field " + none, rows.name88(none, 1, 2), -2);
            Check.due("-2 ahead of 0", rows.name88(none, 2, 1), -2);
        }
        Check.due("no name was made", rows.count(2), 0);
        Check.due("the first name's number", rows.name88(0, 1, 2), 1);
        Check.due("of the last field", rows.name88(2, 1, 2), 2);
        for (int none : new int[] {LEAST, -1, 0, 3, 40, 41, MOST}) {
            Check.due("a range of name " + none, rows.range(none, 1, 2), -2);
            Check.due("-2 ahead of 0", rows.range(none, 2, 1), -2);
        }
        Check.due("the first name's second range", rows.range(1, 1, 2), 2);
        Check.due("the last name's second range", rows.range(2, 1, 2), 2);
    }

    private static final long[][] SIGNED_WRONG = {
        {1, 0}, {0, -1}, {-1, -2}, {HIGHEST, LOWEST}, {HIGHEST, HIGHEST - 1}, {LOWEST + 1, LOWEST}, {1L << 32, 1},
    };
    private static final long[][] SIGNED_RIGHT = {
        {0, 0}, {0, 1}, {-1, 0}, {-2, -1}, {LOWEST, HIGHEST}, {HIGHEST, HIGHEST}, {LOWEST, LOWEST}, {1, 1L << 32},
    };
    private static final long[][] UNSIGNED_WRONG = {
        {1, 0}, {-1, 0}, {-1, -2}, {LOWEST, HIGHEST}, {-1, HIGHEST}, {LOWEST, 0}, {LOWEST + 1, LOWEST}, {1L << 32, 1},
    };
    private static final long[][] UNSIGNED_RIGHT = {
        {0, 0}, {0, 1}, {0, -1}, {-2, -1}, {HIGHEST, LOWEST}, {0, LOWEST}, {LOWEST, -1}, {-1, -1}, {1, 1L << 32},
    };

    private static void lowAboveHigh() {
        for (int field = 0; field <= 2; field++) {
            ConditionRows rows = prepared();
            for (long[] ends : field == TEXT ? UNSIGNED_WRONG : SIGNED_WRONG) {
                Check.due(ends[0] + " above " + ends[1] + ", field " + field, rows.name88(field, ends[0], ends[1]), 0);
            }
            Check.due("no name was made", rows.count(2), 0);
            int made = 0;
            for (long[] ends : field == TEXT ? UNSIGNED_RIGHT : SIGNED_RIGHT) {
                made++;
                Check.due(ends[0] + " to " + ends[1] + ", field " + field, rows.name88(field, ends[0], ends[1]), made);
            }
            Check.due("so many names", rows.count(2), made);
        }
    }

    private static void lowAboveHighOfARange() {
        for (int field = 0; field <= 2; field++) {
            ConditionRows rows = prepared();
            long[][] right = field == TEXT ? UNSIGNED_RIGHT : SIGNED_RIGHT;
            rows.name88(field, 5, 5);
            for (long[] ends : field == TEXT ? UNSIGNED_WRONG : SIGNED_WRONG) {
                Check.due(ends[0] + " above " + ends[1] + ", field " + field, rows.range(1, ends[0], ends[1]), 0);
            }
            for (int has = 2; has <= 8; has++) {
                Check.due("range " + has, rows.range(1, right[has - 2][0], right[has - 2][1]), has);
            }
            Check.due("so many names", rows.count(2), 1);
        }
    }

    private static void fullNames() {
        ConditionRows rows = prepared();
        for (int number = 1; number <= 40; number++) {
            Check.due("name " + number, rows.name88(number % 3, number, number), number);
        }
        for (int field = 0; field <= 2; field++) {
            Check.due("the 41st", rows.name88(field, 1, 2), ConditionRows.NONE);
            Check.due("0 ahead of no room", rows.name88(field, 2, 1), 0);
        }
        Check.due("-2 ahead of no room", rows.name88(3, 1, 2), -2);
        Check.due("40 names", rows.count(2), 40);
        Check.due("none behind them", rows.range(41, 1, 2), -2);
        put(rows, TEXT, 39);
        put(rows, BINARY, 38);
        Check.due("name 38 holds", holds(rows, 38), true);
        Check.due("name 39 holds", holds(rows, 39), true);
        Check.due("name 35 does not", holds(rows, 35), false);
        Check.due("name 36 does not", holds(rows, 36), false);
        Check.due("name 40's second range", rows.range(40, 0, 0), 2);
        Check.due("name 40 holds", holds(rows, 40), true);
        Check.due("name 37 does not", holds(rows, 37), false);
    }

    // The first, one in the midst and the last name, each full: none takes from another.
    private static void fullRanges() {
        ConditionRows rows = prepared();
        for (int number = 1; number <= 40; number++) {
            rows.name88(BINARY, 100 * number, 100 * number);
        }
        for (int name : new int[] {40, 1, 20}) {
            for (int has = 2; has <= 8; has++) {
                Check.due("range " + has + " of " + name, rows.range(name, 100 * name + has, 100 * name + has), has);
            }
            Check.due("the ninth", rows.range(name, 5, 5), ConditionRows.NONE);
            Check.due("0 ahead of no room", rows.range(name, 6, 5), 0);
            Check.due("the ninth once more", rows.range(name, 5, 5), ConditionRows.NONE);
        }
        put(rows, BINARY, 5);
        for (int name : new int[] {1, 2, 19, 20, 21, 39, 40}) {
            Check.due("5 is in no name", holds(rows, name), false);
        }
        for (int name : new int[] {1, 20, 40}) {
            put(rows, BINARY, 100 * name + 8);
            Check.due("the eighth range of " + name, holds(rows, name), true);
            Check.due("not the next one's", holds(rows, name % 40 + 1), false);
            put(rows, BINARY, 100 * name);
            Check.due("the first range of " + name, holds(rows, name), true);
            put(rows, BINARY, 100 * name + 9);
            Check.due("behind the eighth of " + name, holds(rows, name), false);
        }
    }

    private static void dueAround(ConditionRows rows, int field, long low, long high) {
        int node = rows.node(8, rows.name88(field, low, high), 0);
        String what = "field " + field + ", " + low + " to " + high + ": ";
        put(rows, field, low);
        Check.due(what + "low", rows.truth(node), true);
        put(rows, field, high);
        Check.due(what + "high", rows.truth(node), true);
        put(rows, field, low - 1);
        Check.due(what + "below low", rows.truth(node), false);
        put(rows, field, high + 1);
        Check.due(what + "above high", rows.truth(node), false);
    }

    private static void bothEnds() {
        for (int field : new int[] {TEXT, BINARY}) {
            ConditionRows rows = prepared();
            dueAround(rows, field, 5, 5);
            dueAround(rows, field, 5, 6);
            dueAround(rows, field, 5, 500);
            dueAround(rows, field, 1, HIGHEST - 1);
            dueAround(rows, field, -5, -2);
            dueAround(rows, field, LOWEST + 1, -2);
        }
        ConditionRows rows = prepared();
        dueAround(rows, BINARY, -5, 5);
        dueAround(rows, BINARY, -1, 0);
        dueAround(rows, TEXT, 5, -5);
        dueAround(rows, TEXT, HIGHEST, LOWEST);
    }

    private static void endsOfAllNumbers() {
        ConditionRows rows = prepared();
        int all = rows.node(8, rows.name88(BINARY, LOWEST, HIGHEST), 0);
        int least = rows.node(8, rows.name88(BINARY, LOWEST, LOWEST), 0);
        int most = rows.node(8, rows.name88(BINARY, HIGHEST, HIGHEST), 0);
        int below = rows.node(8, rows.name88(BINARY, LOWEST, -1), 0);
        int above = rows.node(8, rows.name88(BINARY, 0, HIGHEST), 0);
        for (long value : new long[] {LOWEST, LOWEST + 1, -1, 0, 1, HIGHEST - 1, HIGHEST}) {
            put(rows, BINARY, value);
            Check.due(value + " in all", rows.truth(all), true);
            Check.due(value + " in the least", rows.truth(least), value == LOWEST);
            Check.due(value + " in the most", rows.truth(most), value == HIGHEST);
            Check.due(value + " below 0", rows.truth(below), value < 0);
            Check.due(value + " from 0 on", rows.truth(above), value >= 0);
        }
    }

    private static void endsOfAllTexts() {
        ConditionRows rows = prepared();
        int all = rows.node(8, rows.name88(TEXT, 0, -1), 0);
        int least = rows.node(8, rows.name88(TEXT, 0, 0), 0);
        int most = rows.node(8, rows.name88(TEXT, -1, -1), 0);
        int low = rows.node(8, rows.name88(TEXT, 0, HIGHEST), 0);
        int high = rows.node(8, rows.name88(TEXT, LOWEST, -1), 0);
        for (long value : new long[] {LOWEST, LOWEST + 1, -2, -1, 0, 1, HIGHEST - 1, HIGHEST}) {
            put(rows, TEXT, value);
            Check.due(value + " in all", rows.truth(all), true);
            Check.due(value + " in the least", rows.truth(least), value == 0);
            Check.due(value + " in the most", rows.truth(most), value == -1);
            Check.due(value + " in the lower half", rows.truth(low), value >= 0);
            Check.due(value + " in the upper half", rows.truth(high), value < 0);
        }
    }

    // Eight ranges with a gap between each two.
    private static void gaps() {
        for (int field : new int[] {TEXT, BINARY}) {
            ConditionRows rows = prepared();
            int name = rows.name88(field, 10, 11);
            for (int n = 2; n <= 8; n++) {
                rows.range(name, 10 * n, 10 * n + 1);
            }
            int node = rows.node(8, name, 0);
            for (int n = 1; n <= 8; n++) {
                for (int off = -1; off <= 2; off++) {
                    put(rows, field, 10 * n + off);
                    Check.due("value " + (10 * n + off), rows.truth(node), off == 0 || off == 1);
                }
            }
        }
        ConditionRows rows = prepared();
        int name = rows.name88(BINARY, 5, 5);
        Check.due("the same range again", rows.range(name, 5, 5), 2);
        Check.due("one that covers it", rows.range(name, 0, 9), 3);
        put(rows, BINARY, 5);
        Check.due("in all of them", holds(rows, name), true);
    }

    private static void wholeNumbers() {
        for (int scale = 0; scale <= 9; scale++) {
            ConditionRows rows = prepared();
            put(rows, BINARY, 1234567890);
            rows.scale(BINARY, scale);
            Check.due("scale " + scale, Check.hasValue(rows, BINARY, 1234567890), true);
            int digits = Check.digits(rows, "1234567890");
            rows.scale(digits, scale);
            Check.due("digits of scale " + scale, Check.hasValue(rows, digits, 1234567890), true);
            Check.due("and no other", Check.hasValue(rows, digits, 123456789), false);
        }
        ConditionRows rows = prepared();
        Check.due("-0 is 0", Check.hasValue(rows, Check.digits(rows, "00p"), 0), true);
        Check.due("-1", Check.hasValue(rows, Check.digits(rows, "00q"), -1), true);
        Check.due("not 1", Check.hasValue(rows, Check.digits(rows, "00q"), 1), false);
        Check.due("not as a text", Check.hasValue(rows, Check.digits(rows, "1"), bytes("1       ")), false);
    }

    private static long bytes(String text) {
        long value = 0;
        for (int i = 0; i < 8; i++) {
            value = value * 256 + text.charAt(i);
        }
        return value;
    }

    private static void fillingOfTexts() {
        for (int size = 1; size <= 9; size++) {
            ConditionRows rows = new ConditionRows(0);
            int field = Check.text(rows, "ABCDEFGHI".substring(0, size));
            long due = bytes(("ABCDEFGHI".substring(0, size) + "        ").substring(0, 8));
            Check.due("a text of " + size, Check.hasValue(rows, field, due), true);
            Check.due("not one less", Check.hasValue(rows, field, due - 1), false);
            Check.due("not one more", Check.hasValue(rows, field, due + 1), false);
            int fresh = rows.field(0, size);
            Check.due("a new text of " + size, Check.hasValue(rows, fresh, 0x2020202020202020L), true);
        }
    }

    private static void firstEightBytes() {
        ConditionRows rows = new ConditionRows(0);
        int field = Check.text(rows, "ABCDEFGH" + "\u00ff".repeat(24));
        int node = rows.node(8, rows.name88(field, bytes("ABCDEFGH"), bytes("ABCDEFGH")), 0);
        Check.due("whatever stands behind them", rows.truth(node), true);
        for (int i = 0; i < 32; i++) {
            rows.octet(field, i, '*');
            Check.due("another byte at " + i, rows.truth(node), i >= 8);
            rows.octet(field, i, 'A' + i);
        }
    }

    private static void bytesNotWeights() {
        ConditionRows rows = new ConditionRows(0);
        int field = Check.text(rows, "AB");
        rows.weight('A', 0);
        rows.weight('B', 255);
        rows.weight(32, 1);
        Check.due("by its bytes", Check.hasValue(rows, field, bytes("AB      ")), true);
    }

    private static void oneFieldManyNames() {
        ConditionRows rows = prepared();
        rows.name88(BINARY, 1, 1);
        rows.name88(BINARY, 2, 2);
        rows.range(1, 3, 3);
        put(rows, BINARY, 3);
        Check.due("the first has the range", holds(rows, 1), true);
        Check.due("the second has not", holds(rows, 2), false);
        put(rows, BINARY, 2);
        Check.due("a name asks its field anew", holds(rows, 1), false);
        Check.due("the second holds", holds(rows, 2), true);
    }

    private static void badFields() {
        ConditionRows rows = prepared();
        rows.octet(DIGITS, 0, 58);
        Check.due("a name of a bad field", rows.name88(DIGITS, LOWEST, HIGHEST), 1);
        Check.due("low above high of it", rows.name88(DIGITS, 1, 0), 0);
        Check.due("a range of it", rows.range(1, 0, 0), 2);
        rows.node(8, 1, 0);
        Check.due("is a fault", Check.thrownByTruth(rows, 1), Check.STATE);
        Check.dueLeaves("and noted", rows, 1);
        rows.octet(DIGITS, 0, 57);
        Check.due("until it is mended", rows.truth(1), true);
    }
}
