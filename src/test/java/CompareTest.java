/** Promise 15: compare, and the rules of comparing. */
final class CompareTest {
    public static void main(String[] args) {
        numbers();
        scales();
        texts();
        weights();
        textsWithNumbers();
        bad();
        refusals();
        Check.end();
    }

    private static void bothWays(String what, ConditionRows rows, int a, int b, int want) {
        Check.due(what, rows.compare(a, b), want);
        Check.due(what + ", the other way", rows.compare(b, a), -want);
    }

    private static void numbers() {
        ConditionRows rows = new ConditionRows(0);
        int seven = Check.digits(rows, "007");
        int minusSeven = Check.digits(rows, "00w");
        int zero = Check.digits(rows, "0");
        int minusZero = Check.digits(rows, "00p");
        int minusNine = Check.digits(rows, "y");
        bothWays("7 and -7", rows, seven, minusSeven, 1);
        bothWays("0 and -0", rows, zero, minusZero, 0);
        bothWays("-7 and -9", rows, minusSeven, minusNine, 1);
        bothWays("-0 and -7", rows, minusZero, minusSeven, 1);
        bothWays("-7 of digits and of binary", rows, minusSeven, Check.binary(rows, 3, -7), 0);
        bothWays("7 of 1 and of 8 bytes", rows, Check.binary(rows, 1, 7), Check.binary(rows, 8, 7), 0);
        bothWays("128 in 1 byte is -128", rows, Check.binary(rows, 1, 128), Check.binary(rows, 2, -128), 0);
        bothWays("32768 in 3 bytes", rows, Check.binary(rows, 3, 32768), Check.binary(rows, 2, 32767), 1);
        int most = Check.digits(rows, "999999999999999999");
        int least = Check.digits(rows, "99999999999999999y");
        bothWays("18 digits", rows, most, Check.binary(rows, 8, 999999999999999999L), 0);
        bothWays("18 digits below 0", rows, least, Check.binary(rows, 8, -999999999999999999L), 0);
        bothWays("the highest first", rows, Check.binary(rows, 2, 256), Check.binary(rows, 1, 1), 1);
    }

    private static void scales() {
        ConditionRows rows = new ConditionRows(0);
        int a = Check.binary(rows, 8, 1050);
        int b = Check.binary(rows, 8, 105);
        rows.scale(a, 2);
        rows.scale(b, 1);
        bothWays("10.50 and 10.5", rows, a, b, 0);
        rows.octet(a, 7, 1051);
        bothWays("10.51 and 10.5", rows, a, b, 1);
        rows.octet(a, 7, 1049);
        bothWays("10.49 and 10.5", rows, a, b, -1);
        int c = Check.binary(rows, 8, -1051);
        int d = Check.binary(rows, 8, -105);
        rows.scale(c, 2);
        rows.scale(d, 1);
        bothWays("-10.51 and -10.5", rows, c, d, -1);
        int least = Check.binary(rows, 8, Long.MIN_VALUE);
        int most = Check.binary(rows, 8, Long.MAX_VALUE);
        bothWays("the least and the most", rows, least, most, -1);
        rows.scale(least, 9);
        bothWays("the least with 9 decimals", rows, least, Check.binary(rows, 8, -9223372037L), 1);
        bothWays("the least with 9 decimals, above", rows, least, Check.binary(rows, 8, -9223372036L), -1);
        rows.scale(most, 9);
        bothWays("the most with 9 decimals", rows, most, Check.binary(rows, 8, Long.MAX_VALUE), -1);
        bothWays("no product is too big", rows, most, Check.binary(rows, 8, 1L << 62), -1);
        int small = Check.digits(rows, "1");
        rows.scale(small, 9);
        bothWays("0.000000001 and 0", rows, small, Check.digits(rows, "0"), 1);
        int minus = Check.digits(rows, "q");
        rows.scale(minus, 9);
        bothWays("-0.000000001 and 0", rows, minus, Check.digits(rows, "0"), -1);
    }

    private static void texts() {
        ConditionRows rows = new ConditionRows(0);
        int ab = Check.text(rows, "AB");
        bothWays("AB and AB filled", rows, ab, Check.text(rows, "AB   "), 0);
        bothWays("AB and ABA", rows, ab, Check.text(rows, "ABA"), -1);
        bothWays("AB and AB\\1", rows, ab, Check.text(rows, "AB\1"), 1);
        bothWays("AB and AC", rows, ab, Check.text(rows, "AC"), -1);
        bothWays("the first byte that differs", rows, ab, Check.text(rows, "BA"), -1);
        int long1 = Check.text(rows, "12345678901234567890123456789012");
        int long2 = Check.text(rows, "12345678901234567890123456789013");
        bothWays("the 32nd byte", rows, long1, long2, -1);
        bothWays("bytes without sign", rows, Check.text(rows, "\u00ff"), Check.text(rows, "\u007f"), 1);
    }

    private static void weights() {
        ConditionRows rows = new ConditionRows(0);
        int upper = Check.text(rows, "AB");
        int lower = Check.text(rows, "ab");
        bothWays("AB and ab", rows, upper, lower, -1);
        rows.weight('a', 'A');
        rows.weight('b', 'B');
        bothWays("AB and ab of one weight", rows, upper, lower, 0);
        rows.weight('b', 0);
        bothWays("b of weight 0", rows, upper, lower, 1);
        int short1 = Check.text(rows, "x");
        int long1 = Check.text(rows, "x!");
        bothWays("x and x!", rows, short1, long1, -1);
        rows.weight(32, 200);
        bothWays("the filling has its weight", rows, short1, long1, 1);
        int seven = Check.digits(rows, "7");
        int eight = Check.digits(rows, "8");
        rows.weight('7', 250);
        bothWays("numbers have no weights", rows, seven, eight, -1);
        bothWays("digits as a text have", rows, seven, Check.text(rows, "8"), 1);
    }

    private static void textsWithNumbers() {
        ConditionRows rows = new ConditionRows(0);
        int text = Check.text(rows, "007");
        int digits = Check.digits(rows, "00w");
        bothWays("as many digits as bytes, no sign", rows, text, digits, 0);
        rows.scale(digits, 2);
        bothWays("no point", rows, text, digits, 0);
        bothWays("not as few", rows, Check.text(rows, "7"), digits, 1);
        int binary = Check.binary(rows, 2, -7);
        rows.scale(binary, 3);
        bothWays("as few as there can be", rows, Check.text(rows, "7"), binary, 0);
        bothWays("the first digits", rows, Check.text(rows, "1"), Check.binary(rows, 2, 10), -1);
        bothWays("0 has a digit", rows, Check.text(rows, "0 "), Check.binary(rows, 4, 0), 0);
        bothWays("the least", rows, Check.text(rows, "9223372036854775808"),
            Check.binary(rows, 8, Long.MIN_VALUE), 0);
        bothWays("the most", rows, Check.text(rows, "9223372036854775807"),
            Check.binary(rows, 8, Long.MAX_VALUE), 0);
        bothWays("-0 as a text", rows, Check.text(rows, "00"), Check.digits(rows, "0p"), 0);
        bothWays("-9 as a text", rows, Check.text(rows, "9"), Check.digits(rows, "y"), 0);
        bothWays("spaces are below digits", rows, rows.field(0, 1), Check.binary(rows, 1, 0), -1);
    }

    private static void dueBad(String bytes, boolean bad) {
        ConditionRows rows = new ConditionRows(0);
        int field = Check.digits(rows, bytes);
        int other = Check.digits(rows, "1");
        int text = Check.text(rows, "1");
        int want = bad ? Check.STATE : Check.NOTHING;
        Check.due("bad on the left: " + bytes, Check.thrownByCompare(rows, field, other), want);
        Check.due("bad on the right: " + bytes, Check.thrownByCompare(rows, other, field), want);
        Check.due("bad with a text: " + bytes, Check.thrownByCompare(rows, text, field), want);
        Check.due("bad with itself: " + bytes, Check.thrownByCompare(rows, field, field), want);
    }

    private static void bad() {
        dueBad("123", false);
        dueBad("12p", false);
        dueBad("12y", false);
        dueBad("12o", true);
        dueBad("12z", true);
        dueBad("12/", true);
        dueBad("12:", true);
        dueBad("p23", true);
        dueBad("1 3", true);
        dueBad(":23", true);
        dueBad("/23", true);
        dueBad("\0", true);
        dueBad("\u00f1", true);
    }

    private static void refusals() {
        ConditionRows rows = new ConditionRows(0);
        Check.due("compare(0, 0) of none", Check.thrownByCompare(rows, 0, 0), Check.ARGUMENT);
        int bad = Check.digits(rows, "x1");
        Check.due("compare(-1, 0)", Check.thrownByCompare(rows, -1, bad), Check.ARGUMENT);
        Check.due("compare(0, -1)", Check.thrownByCompare(rows, bad, -1), Check.ARGUMENT);
        Check.due("compare(0, 1)", Check.thrownByCompare(rows, bad, 1), Check.ARGUMENT);
        Check.due("compare(1, 0)", Check.thrownByCompare(rows, 1, bad), Check.ARGUMENT);
        rows.node(9, 0, 0);
        rows.truth(1);
        Check.due("compare of a bad one", Check.thrownByCompare(rows, bad, bad), Check.STATE);
        Check.dueLeaves("compare is no test", rows, 1);
    }
}
