/** The edges of Terms' FIELDS and of promises 1 to 5. */
final class FieldEdgesTest {
    private static final int LEAST = Integer.MIN_VALUE;
    private static final int MOST = Integer.MAX_VALUE;
    private static final int[] SIZES = {32, 18, 8};
    private static final int[] FIRST = {32, 48, 0};

    public static void main(String[] args) {
        orders();
        eachSize();
        outsideSizes();
        fullOfEachCategory();
        firstBytesOfEachSize();
        badBytes();
        badAtEachPlace();
        negativeLastBytes();
        mostDigits();
        binaryOfEachSize();
        eachIndex();
        lowestEightBits();
        scales();
        scaleOfEachField();
        weights();
        Check.end();
    }

    private static void orders() {
        dueLeavesByOrder(0, 1);
        for (int order : new int[] {LEAST, -256, -2, -1, 1, 2, 256, 65536, MOST}) {
            dueLeavesByOrder(order, 2);
        }
    }

    private static void dueLeavesByOrder(int order, int leaves) {
        ConditionRows rows = new ConditionRows(order);
        rows.node(9, 0, 0);
        rows.node(9, 1, 0);
        rows.node(11, 1, 2);
        Check.due("nothing on and nothing on", rows.truth(3), false);
        Check.due("an and by order " + order, rows.count(4), leaves);
        rows.switchOn(0, true);
        rows.node(12, 1, 2);
        Check.due("on or off", rows.truth(4), true);
        Check.due("an or by order " + order, rows.count(4), leaves);
    }

    private static void eachSize() {
        for (int category = 0; category < 3; category++) {
            ConditionRows rows = new ConditionRows(0);
            for (int size = 1; size <= SIZES[category]; size++) {
                String what = "category " + category + " of " + size;
                Check.due(what, rows.field(category, size), size - 1);
                Check.due(what + ": its last byte", rows.octet(size - 1, size - 1, FIRST[category]), 1);
                Check.due(what + ": the one behind", rows.octet(size - 1, size, FIRST[category]), -4);
                Check.due(what + ": count(0)", rows.count(0), size);
            }
        }
    }

    private static void outsideSizes() {
        ConditionRows rows = new ConditionRows(0);
        for (int category = 0; category < 3; category++) {
            for (int size : new int[] {LEAST, -1, 0, SIZES[category] + 1, 33, 256 + 1, MOST}) {
                Check.due("field(" + category + ", " + size + ")", rows.field(category, size), -4);
            }
        }
        for (int category : new int[] {LEAST, -1, 3, 4, 256, MOST}) {
            for (int size : new int[] {0, 1, 8}) {
                Check.due("field(" + category + ", " + size + ")", rows.field(category, size), -4);
            }
        }
        Check.due("none was made", rows.count(0), 0);
        Check.due("the first field's number", rows.field(0, 1), 0);
    }

    private static void fullOfEachCategory() {
        for (int category = 0; category < 3; category++) {
            ConditionRows rows = new ConditionRows(0);
            for (int number = 0; number < 40; number++) {
                Check.due("field " + number, rows.field(category, SIZES[category]), number);
            }
            for (int other = 0; other < 3; other++) {
                Check.due("the 41st", rows.field(other, 1), ConditionRows.NONE);
                Check.due("outside ahead of no room", rows.field(other, 0), -4);
            }
            Check.due("outside ahead of no room", rows.field(3, 1), -4);
            Check.due("40 fields", rows.count(0), 40);
            Check.due("the last one", rows.octet(39, SIZES[category] - 1, FIRST[category] + 1), 1);
            Check.due("is there", rows.compare(39, 38), 1);
            Check.due("field 40 is not", rows.octet(40, 0, 48), -2);
        }
    }

    private static void firstBytesOfEachSize() {
        for (int size = 1; size <= 32; size++) {
            ConditionRows rows = new ConditionRows(0);
            Check.due("a new text of " + size, rows.compare(rows.field(0, size), Check.text(rows, " ".repeat(32))), 0);
            // A text of bytes 32 alone is alphabetic; a 33 or a 31 in it would not be.
            Check.due("all of its bytes", rows.truth(rows.node(6, 0, 2)), true);
        }
        for (int size = 1; size <= 18; size++) {
            ConditionRows rows = new ConditionRows(0);
            int field = rows.field(1, size);
            Check.due("new digits of " + size, rows.compare(field, Check.text(rows, "0".repeat(size))), 0);
            Check.due("their value", Check.hasValue(rows, field, 0), true);
        }
        for (int size = 1; size <= 8; size++) {
            ConditionRows rows = new ConditionRows(0);
            Check.due("a new binary of " + size, Check.hasValue(rows, rows.field(2, size), 0), true);
        }
    }

    private static boolean isDigit(int b) {
        return b >= 48 && b <= 57;
    }

    private static boolean isNegativeDigit(int b) {
        return b >= 112 && b <= 121;
    }

    // One byte alone, the first of two, the last of two: every byte there is.
    private static void badBytes() {
        for (int b = 0; b < 256; b++) {
            ConditionRows rows = new ConditionRows(0);
            rows.field(1, 1);
            rows.field(1, 2);
            rows.field(1, 2);
            rows.octet(0, 0, b);
            rows.octet(1, 0, b);
            rows.octet(2, 1, b);
            dueBad(rows, 0, b, !isDigit(b) && !isNegativeDigit(b));
            dueBad(rows, 1, b, !isDigit(b));
            dueBad(rows, 2, b, !isDigit(b) && !isNegativeDigit(b));
        }
    }

    private static void dueBad(ConditionRows rows, int field, int b, boolean bad) {
        int want = bad ? Check.STATE : Check.NOTHING;
        Check.due("byte " + b + " in field " + field, Check.thrownByCompare(rows, field, field), want);
        Check.due("numeric with " + b + ", field " + field, rows.truth(rows.node(6, field, 0)), !bad);
    }

    private static void badAtEachPlace() {
        for (int size = 1; size <= 18; size++) {
            ConditionRows rows = new ConditionRows(0);
            int field = rows.field(1, size);
            int node = rows.node(6, field, 0);
            for (int i = 0; i < size; i++) {
                rows.octet(field, i, 112);
                Check.due("112 at " + i + " of " + size, rows.truth(node), i == size - 1);
                rows.octet(field, i, 58);
                Check.due("58 at " + i + " of " + size, rows.truth(node), false);
                rows.octet(field, i, 57);
                Check.due("57 at " + i + " of " + size, rows.truth(node), true);
            }
        }
    }

    private static void negativeLastBytes() {
        for (int digit = 0; digit <= 9; digit++) {
            ConditionRows rows = new ConditionRows(0);
            int one = rows.field(1, 1);
            int two = rows.field(1, 2);
            rows.octet(two, 0, 51);
            rows.octet(one, 0, 48 + digit);
            rows.octet(two, 1, 48 + digit);
            Check.due("a digit alone", Check.hasValue(rows, one, digit), true);
            Check.due("behind a 3", Check.hasValue(rows, two, 30 + digit), true);
            rows.octet(one, 0, 112 + digit);
            rows.octet(two, 1, 112 + digit);
            Check.due("a negative digit alone", Check.hasValue(rows, one, -digit), true);
            Check.due("behind a 3", Check.hasValue(rows, two, -30 - digit), true);
        }
    }

    private static void mostDigits() {
        ConditionRows rows = new ConditionRows(0);
        int most = Check.digits(rows, "9".repeat(18));
        int least = Check.digits(rows, "9".repeat(17) + "y");
        Check.due("18 nines", Check.hasValue(rows, most, 999999999999999999L), true);
        Check.due("18 nines below 0", Check.hasValue(rows, least, -999999999999999999L), true);
        int one = Check.digits(rows, "1" + "0".repeat(17));
        Check.due("the first of 18", Check.hasValue(rows, one, 100000000000000000L), true);
    }

    // The ends of each size, where the sign's bit begins.
    private static void binaryOfEachSize() {
        for (int size = 1; size <= 8; size++) {
            long most = size == 8 ? Long.MAX_VALUE : (1L << 8 * size - 1) - 1;
            for (long value : new long[] {0, 1, most - 1, most, -most - 1, -most, -1, most / 3, -most / 3}) {
                ConditionRows rows = new ConditionRows(0);
                int field = Check.binary(rows, size, value);
                Check.due(value + " in " + size + " bytes", Check.hasValue(rows, field, value), true);
                int sign = Long.signum(value);
                Check.due("its sign", rows.truth(rows.node(7, field, sign)), true);
            }
            ConditionRows rows = new ConditionRows(0);
            int field = rows.field(2, size);
            rows.octet(field, 0, 128);
            Check.due("128 first of " + size, Check.hasValue(rows, field, -most - 1), true);
            rows.octet(field, 0, 127);
            Check.due("127 first of " + size, Check.hasValue(rows, field, 127L << 8 * (size - 1)), true);
        }
    }

    private static void eachIndex() {
        for (int category = 0; category < 3; category++) {
            ConditionRows rows = new ConditionRows(0);
            int size = SIZES[category];
            rows.field(category, size);
            rows.field(category, size);
            rows.field(category, size);
            for (int i : new int[] {LEAST, -size, -1, size, size + 1, 33, 256, MOST}) {
                Check.due("octet(1, " + i + ", ..) of " + category, rows.octet(1, i, 50), -4);
            }
            Check.due("fields as they were", rows.compare(0, 1), 0);
            Check.due("fields as they were", rows.compare(1, 2), 0);
            for (int i = size - 1; i >= 0; i--) {
                Check.due("octet(1, " + i + ", ..)", rows.octet(1, i, 50), 1);
                Check.due("it is another", rows.compare(1, 0), 1);
                Check.due("its neighbours are as they were", rows.compare(0, 2), 0);
                rows.octet(1, i, FIRST[category]);
                Check.due("and the same again", rows.compare(1, 0), 0);
            }
            for (int field : new int[] {LEAST, -1, 3, 39, 40, MOST}) {
                Check.due("octet(" + field + ", ..)", rows.octet(field, 0, 50), -2);
                Check.due("-2 ahead of -4", rows.octet(field, -1, 50), -2);
            }
        }
    }

    private static void lowestEightBits() {
        int[] given = {0, 127, 128, 255, 256, 257, 511, 512, -1, -128, -129, -255, -256, -257, LEAST, MOST, 0x12345680};
        int[] due = {0, 127, 128, 255, 0, 1, 255, 0, 255, 128, 127, 1, 0, 255, 0, 255, 128};
        for (int n = 0; n < given.length; n++) {
            ConditionRows rows = new ConditionRows(0);
            rows.field(2, 2);
            Check.due("octet(.., " + given[n] + ")", rows.octet(0, 1, given[n]), 1);
            Check.due(given[n] + " is " + due[n], Check.hasValue(rows, 0, due[n]), true);
        }
    }

    private static void scales() {
        ConditionRows rows = new ConditionRows(0);
        rows.field(0, 3);
        rows.field(1, 3);
        rows.field(2, 3);
        for (int field = 1; field <= 2; field++) {
            for (int n = 0; n <= 9; n++) {
                Check.due("scale(" + field + ", " + n + ")", rows.scale(field, n), n == 0 ? 0 : n - 1);
            }
            for (int n : new int[] {LEAST, -1, 10, 11, 256, MOST}) {
                Check.due("scale(" + field + ", " + n + ")", rows.scale(field, n), -4);
            }
            Check.due("it is 9 still", rows.scale(field, 0), 9);
            Check.due("then 0", rows.scale(field, 0), 0);
        }
        for (int n : new int[] {LEAST, -1, 0, 9, 10, MOST}) {
            Check.due("of a text", rows.scale(0, n), -2);
            for (int field : new int[] {LEAST, -1, 3, 40, MOST}) {
                Check.due("scale(" + field + ", " + n + ")", rows.scale(field, n), -2);
            }
        }
    }

    // So many decimals behind the point: 10^n with scale n is 1.
    private static void scaleOfEachField() {
        ConditionRows rows = new ConditionRows(0);
        int one = Check.binary(rows, 1, 1);
        for (int n = 0; n <= 9; n++) {
            int digits = Check.digits(rows, "1" + "0".repeat(n));
            int binary = Check.binary(rows, 5, Math.round(Math.pow(10, n)));
            rows.scale(digits, n);
            rows.scale(binary, n);
            Check.due("digits with " + n + " decimals", rows.compare(digits, one), 0);
            Check.due("binary with " + n + " decimals", rows.compare(binary, one), 0);
            Check.due("the one as the other", rows.compare(binary, digits), 0);
        }
        Check.due("the first one's scale is its own", rows.scale(one, 0), 0);
    }

    private static void weights() {
        ConditionRows rows = new ConditionRows(0);
        int[] outside = {LEAST, -256, -1, 256, 257, MOST};
        for (int number : outside) {
            for (int other : new int[] {0, 32, 255}) {
                Check.due("weight(" + number + ", " + other + ")", rows.weight(number, other), -4);
                Check.due("weight(" + other + ", " + number + ")", rows.weight(other, number), -4);
            }
            Check.due("both outside", rows.weight(number, number), -4);
        }
        for (int b = 0; b < 256; b++) {
            Check.due("weight(" + b + ", ..) at first", rows.weight(b, b), b);
        }
        for (int b : new int[] {0, 255}) {
            for (int w : new int[] {255, 0, 128}) {
                rows.weight(b, w);
                Check.due("weight " + w + " of " + b, rows.weight(b, w), w);
            }
        }
        Check.due("the neighbour of 0", rows.weight(1, 1), 1);
        Check.due("the neighbour of 255", rows.weight(254, 254), 254);
    }
}
