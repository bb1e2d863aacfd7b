/** Promises 1 to 5: a new object, field, octet, scale, weight. */
final class FieldsTest {
    public static void main(String[] args) {
        newObject();
        field();
        firstBytes();
        allOfTheLongest();
        octet();
        scale();
        weight();
        Check.end();
    }

    private static void newObject() {
        for (int order = -1; order <= 2; order++) {
            ConditionRows rows = new ConditionRows(order);
            for (int what = 0; what <= 5; what++) {
                Check.due("a new object's count(" + what + ")", rows.count(what), 0);
            }
            Check.due("a new object's asked(0)", rows.asked(0), 0);
            Check.due("a new object's unfold()", rows.unfold(), 0);
            Check.due("a new object's truth(1)", Check.thrownByTruth(rows, 1), Check.ARGUMENT);
            for (int n = 0; n < 16; n++) {
                Check.due("a new object's switch " + n, rows.switchOn(n, false), 0);
            }
        }
        testsShortOrWhole(0, 1);
        testsShortOrWhole(1, 2);
        testsShortOrWhole(-1, 2);
        testsShortOrWhole(Integer.MIN_VALUE, 2);
    }

    private static void testsShortOrWhole(int order, int leaves) {
        ConditionRows rows = new ConditionRows(order);
        rows.node(9, 0, 0);
        rows.node(9, 1, 0);
        rows.node(11, 1, 2);
        rows.truth(3);
        Check.due("leaves by order " + order, rows.count(4), leaves);
    }

    private static void field() {
        ConditionRows rows = new ConditionRows(0);
        int[] most = {32, 18, 8};
        for (int category = 0; category < 3; category++) {
            Check.due("size 0 of " + category, rows.field(category, 0), -4);
            Check.due("size -1 of " + category, rows.field(category, -1), -4);
            Check.due("size above of " + category, rows.field(category, most[category] + 1), -4);
            Check.due("a great size of " + category, rows.field(category, Integer.MAX_VALUE), -4);
            Check.due("size 1 of " + category, rows.field(category, 1), 2 * category);
            Check.due("the most of " + category, rows.field(category, most[category]), 2 * category + 1);
        }
        Check.due("field(-1, 1)", rows.field(-1, 1), -4);
        Check.due("field(3, 1)", rows.field(3, 1), -4);
        for (int number = 6; number < 40; number++) {
            Check.due("field(0, 1)", rows.field(0, 1), number);
        }
        Check.due("a field too many", rows.field(0, 1), ConditionRows.NONE);
        Check.due("outside ahead of no room", rows.field(0, 33), -4);
        Check.due("count(0) when full", rows.count(0), 40);
    }

    private static void firstBytes() {
        ConditionRows rows = new ConditionRows(0);
        rows.field(0, 4);
        rows.field(1, 4);
        rows.field(2, 4);
        Check.text(rows, "    ");
        Check.digits(rows, "0000");
        Check.binary(rows, 4, 0);
        Check.due("a new text", rows.compare(0, 3), 0);
        Check.due("new digits", rows.compare(1, 4), 0);
        Check.due("a new binary", rows.compare(2, 5), 0);
        Check.due("new digits as a text", rows.compare(1, Check.text(rows, "0000")), 0);
    }

    private static void allOfTheLongest() {
        ConditionRows rows = new ConditionRows(0);
        for (int number = 0; number < 40; number++) {
            Check.due("field(0, 32)", rows.field(0, 32), number);
            Check.due("its last byte", rows.octet(number, 31, number), 1);
            Check.due("octet behind it", rows.octet(number, 32, 65), -4);
        }
        for (int number = 1; number < 40; number++) {
            Check.due("fields stand apart", rows.compare(number, number - 1), 1);
        }
    }

    private static void octet() {
        ConditionRows rows = new ConditionRows(0);
        Check.due("octet of no field", rows.octet(0, 0, 65), -2);
        rows.field(0, 2);
        rows.field(0, 2);
        Check.due("octet(-1, ..)", rows.octet(-1, 0, 65), -2);
        Check.due("octet(2, ..)", rows.octet(2, 0, 65), -2);
        Check.due("octet(.., -1, ..)", rows.octet(0, -1, 65), -4);
        Check.due("octet(.., 2, ..)", rows.octet(0, 2, 65), -4);
        Check.due("-2 ahead of -4", rows.octet(2, -1, 65), -2);
        Check.due("what is refused changes nothing", rows.compare(0, 1), 0);
        Check.due("octet(0, 1, 65)", rows.octet(0, 1, 65), 1);
        Check.due("the byte is there", rows.compare(0, 1), 1);
        Check.due("octet(1, 1, 256 + 65)", rows.octet(1, 1, 256 + 65), 1);
        Check.due("its lowest 8 bits", rows.compare(0, 1), 0);
        rows.octet(0, 1, -1);
        rows.octet(1, 1, 255);
        Check.due("-1 is 255", rows.compare(0, 1), 0);
        rows.octet(1, 1, 127);
        Check.due("255 is above 127", rows.compare(0, 1), 1);
    }

    private static void scale() {
        ConditionRows rows = new ConditionRows(0);
        Check.due("scale of no field", rows.scale(0, 1), -2);
        rows.field(0, 1);
        rows.field(1, 2);
        rows.field(2, 2);
        Check.due("scale of a text", rows.scale(0, 1), -2);
        Check.due("-2 ahead of -4 of a text", rows.scale(0, 10), -2);
        Check.due("scale(3, 1)", rows.scale(3, 1), -2);
        Check.due("scale(-1, 10)", rows.scale(-1, 10), -2);
        Check.due("scale(1, 9)", rows.scale(1, 9), 0);
        Check.due("scale(1, 10)", rows.scale(1, 10), -4);
        Check.due("scale(1, -1)", rows.scale(1, -1), -4);
        Check.due("scale(1, 2)", rows.scale(1, 2), 9);
        Check.due("scale(2, 3)", rows.scale(2, 3), 0);
        Check.due("scale(1, 0)", rows.scale(1, 0), 2);
        Check.due("scale(2, 0)", rows.scale(2, 0), 3);
    }

    private static void weight() {
        ConditionRows rows = new ConditionRows(0);
        for (int b = 0; b < 256; b++) {
            Check.due("weight(" + b + ", ..) at first", rows.weight(b, 255 - b), b);
        }
        Check.due("weight(0, 0)", rows.weight(0, 0), 255);
        Check.due("weight(0, 9)", rows.weight(0, 9), 0);
        Check.due("weight(-1, 0)", rows.weight(-1, 0), -4);
        Check.due("weight(256, 0)", rows.weight(256, 0), -4);
        Check.due("weight(0, -1)", rows.weight(0, -1), -4);
        Check.due("weight(0, 256)", rows.weight(0, 256), -4);
        Check.due("what is refused changes nothing", rows.weight(0, 1), 9);
    }
}
