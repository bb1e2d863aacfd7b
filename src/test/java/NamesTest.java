/** Promises 7 and 8: name88 and range; and when a name holds. */
final class NamesTest {
    public static void main(String[] args) {
        name88();
        range();
        numbers();
        texts();
        onlyItsRanges();
        Check.end();
    }

    private static void name88() {
        ConditionRows rows = new ConditionRows(0);
        Check.due("a name of no field", rows.name88(0, 1, 2), -2);
        rows.field(1, 2);
        rows.field(0, 2);
        Check.due("a name of field -1", rows.name88(-1, 1, 2), -2);
        Check.due("a name of field 2", rows.name88(2, 1, 2), -2);
        Check.due("-2 ahead of 0", rows.name88(2, 2, 1), -2);
        Check.due("low above high", rows.name88(0, 2, 1), 0);
        Check.due("-1 above -2", rows.name88(0, -1, -2), 0);
        Check.due("0 above -1", rows.name88(0, 0, -1), 0);
        Check.due("of a text: -1 above 0", rows.name88(1, -1, 0), 0);
        Check.due("of a text: the least above the most", rows.name88(1, Long.MIN_VALUE, Long.MAX_VALUE), 0);
        Check.due("what is refused makes none", rows.count(2), 0);
        Check.due("low is high", rows.name88(0, 5, 5), 1);
        Check.due("all numbers", rows.name88(0, Long.MIN_VALUE, Long.MAX_VALUE), 2);
        Check.due("of a text: 0 to -1", rows.name88(1, 0, -1), 3);
        Check.due("of a text: the most to the least", rows.name88(1, Long.MAX_VALUE, Long.MIN_VALUE), 4);
        for (int number = 5; number <= 40; number++) {
            Check.due("name " + number, rows.name88(number % 2, 1, 2), number);
        }
        Check.due("a name too many", rows.name88(0, 1, 2), ConditionRows.NONE);
        Check.due("0 ahead of no room", rows.name88(0, 2, 1), 0);
        Check.due("-2 ahead of no room", rows.name88(2, 1, 2), -2);
        Check.due("count(2)", rows.count(2), 40);
    }

    private static void range() {
        ConditionRows rows = new ConditionRows(0);
        Check.due("a range of no name", rows.range(1, 1, 2), -2);
        rows.field(1, 2);
        rows.field(0, 2);
        rows.name88(0, 1, 2);
        rows.name88(1, 1, 2);
        Check.due("name 0", rows.range(0, 1, 2), -2);
        Check.due("name 3", rows.range(3, 1, 2), -2);
        Check.due("name -1", rows.range(-1, 2, 1), -2);
        Check.due("low above high", rows.range(1, 2, 1), 0);
        Check.due("of a text: low above high", rows.range(2, -1, 1), 0);
        Check.due("of a number: -1 to 1", rows.range(1, -1, 1), 2);
        Check.due("of a text: 1 to -1", rows.range(2, 1, -1), 2);
        for (int has = 3; has <= 8; has++) {
            Check.due("range " + has, rows.range(1, has, has), has);
        }
        Check.due("a range too many", rows.range(1, 1, 2), ConditionRows.NONE);
        Check.due("0 ahead of no room", rows.range(1, 2, 1), 0);
        Check.due("another name has room", rows.range(2, 3, 4), 3);
    }

    private static boolean holds(ConditionRows rows, int name) {
        return rows.truth(rows.node(8, name, 0));
    }

    private static void dueIn(ConditionRows rows, int name, int field, long value, boolean want) {
        for (int i = 0; i < 8; i++) {
            rows.octet(field, i, (int) (value >> 56 - 8 * i));
        }
        Check.due("name " + name + " of " + value, holds(rows, name), want);
    }

    private static void numbers() {
        ConditionRows rows = new ConditionRows(0);
        int field = rows.field(2, 8);
        int name = rows.name88(field, 4, 6);
        rows.range(name, -9, -7);
        rows.range(name, 20, 20);
        rows.scale(field, 1);
        long[] in = {4, 5, 6, -9, -8, -7, 20};
        long[] out = {3, 7, -10, -6, 0, 19, 21, 40, 60, Long.MIN_VALUE, Long.MAX_VALUE};
        for (long value : in) {
            dueIn(rows, name, field, value, true);
        }
        for (long value : out) {
            dueIn(rows, name, field, value, false);
        }
        Check.due("digits below 0", holds(rows, rows.name88(Check.digits(rows, "1r"), -12, -12)), true);
        Check.due("-0 is 0", holds(rows, rows.name88(Check.digits(rows, "0p"), 0, 0)), true);
        int full = rows.name88(Check.digits(rows, "8"), 1, 1);
        for (int i = 2; i <= 8; i++) {
            rows.range(full, i, i);
        }
        Check.due("the 8th range", holds(rows, full), true);
        int bad = rows.name88(Check.digits(rows, "x8"), Long.MIN_VALUE, Long.MAX_VALUE);
        int node = rows.node(8, bad, 0);
        Check.due("a bad field of a name", Check.thrownByTruth(rows, node), Check.STATE);
        Check.dueLeaves("a bad field of a name", rows, node);
    }

    private static long bytes(String text) {
        long value = 0;
        for (int i = 0; i < 8; i++) {
            value = value * 256 + text.charAt(i);
        }
        return value;
    }

    private static void texts() {
        ConditionRows rows = new ConditionRows(0);
        int ab = Check.text(rows, "AB");
        long filled = bytes("AB      ");
        Check.due("filled with 32", holds(rows, rows.name88(ab, filled, filled)), true);
        Check.due("below", holds(rows, rows.name88(ab, 0, filled - 1)), false);
        Check.due("above", holds(rows, rows.name88(ab, filled + 1, -1)), false);
        rows.weight('A', 0);
        Check.due("by bytes, not by weights", holds(rows, rows.name88(ab, filled, filled)), true);
        int long1 = Check.text(rows, "ABCDEFGHIJ");
        long first = bytes("ABCDEFGH");
        Check.due("the first 8 bytes", holds(rows, rows.name88(long1, first, first)), true);
        int high = Check.text(rows, "\u00c8A");
        Check.due("without sign", holds(rows, rows.name88(high, 0, -1)), true);
        Check.due("above the most", holds(rows, rows.name88(high, Long.MIN_VALUE, -1)), true);
        Check.due("not below the most", holds(rows, rows.name88(high, 0, Long.MAX_VALUE)), false);
        int name = rows.name88(ab, 1, 2);
        rows.range(name, bytes("AA      "), bytes("AC      "));
        Check.due("a second range", holds(rows, name), true);
        rows.octet(ab, 1, 'D');
        Check.due("no longer in it", holds(rows, name), false);
    }

    // A value of 0 is in no range that was not given, and the last name has room for all of its own.
    private static void onlyItsRanges() {
        ConditionRows rows = new ConditionRows(0);
        int zeros = Check.text(rows, "\0\0\0\0\0\0\0\0");
        int number = rows.field(2, 1);
        for (int name = 1; name <= 40; name++) {
            rows.name88(name % 2 == 0 ? zeros : number, 1, 2);
        }
        Check.due("0 as a text", holds(rows, 40), false);
        Check.due("0 as a number", holds(rows, 39), false);
        for (int has = 2; has <= 8; has++) {
            Check.due("range " + has, rows.range(40, has, has), has);
            Check.due("0 as a text still", holds(rows, 40), false);
        }
        rows.octet(zeros, 7, 8);
        Check.due("8 as a text", holds(rows, 40), true);
        Check.due("8 is in no other", holds(rows, 38), false);
    }
}
